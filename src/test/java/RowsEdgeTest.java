import java.util.ArrayList;
import java.util.List;

/** The edges of promises 30 to 34: one row, twenty, none; NOW 96; wrong rows; forces from a sheet. */
public final class RowsEdgeTest {
    private static final int BAD = HatFields.BAD;
    private static final int LEAST = Integer.MIN_VALUE, MOST = Integer.MAX_VALUE;
    private static final int MISSING = -11, OUTSIDE = -12, OTHER_SORT = -13;

    public static void main(String[] args) {
        proveNumbers();
        proveAsHoursGo();
        proveUpTo96();
        rowNumbers();
        alterRow();
        alterRowNumbers();
        judgeEachRow();
        judgeNone();
        judgeFromNowOn();
        judgeBehind96();
        windsNumbers();
        windsHeld();
        windsRefused();
        windsOutside();
        Check.finish();
    }

    // ---- 30: prove

    private static void proveNumbers() {
        for (int n = 1; n <= 20; n++) {
            HatFields x = new HatFields();
            Check.due("30: prove(" + n + ")", x.prove(n), n);
            Check.due("30: many(3)", x.many(3), n);
            Check.due("31: the last row", x.row(n - 1, 0), n);
            Check.due("31: behind the last row", x.row(n, 0), -9);
        }
        for (int n : new int[] {0, -1, 21, LEAST, MOST}) {
            Twins.nothingChanges("30: prove(" + n + ") leaves the rows that are", Twins::rich, x -> x.prove(n), BAD);
            Twins.nothingChanges("30: prove(" + n + ") at 96", Twins::late, x -> x.prove(n), BAD);
        }
        Twins.nothingChanges("30: the same once more", Twins::rich, x -> x.prove(3), 3);
        Twins.justThisChanges("30: fewer", Twins::rich, x -> x.prove(1), 1, "many(3)=1", "row(1, 0)=-9", "row(1, 1)=-9",
            "row(1, 2)=-9", "row(2, 0)=-9", "row(2, 1)=-9", "row(2, 2)=-9");
        Twins.justThisChanges("30: more", Twins::rich, x -> x.prove(4), 4, "many(3)=4", "row(3, 0)=33", "row(3, 1)=30",
            "row(3, 2)=1");
    }

    private static void proveAsHoursGo() {
        HatFields x = Twins.rich();
        x.clock(40);
        x.prove(20);
        HatFields gone = Twins.rich();
        gone.clock(40);
        for (int i = 0; i < 20; i++) {
            gone.hours(1);
            int worn = 0;
            int away = 0;
            for (int h = 0; h < 5; h++) {
                worn |= gone.hatOf(h, 3) >= 0 ? 1 << h : 0;
                away |= gone.hatOf(h, 4) == -9 ? 1 << h : 0;
            }
            Check.due("31: NOW behind it, " + i, x.row(i, 0), 41 + i);
            Check.due("31: worn as a set, " + i, x.row(i, 1), worn);
            Check.due("31: gone as a set, " + i, x.row(i, 2), away);
        }
        x = Check.told("person 0 speed 0;" + "hat 0 worth 1 on 0;".repeat(6) + "wind 1 west 9;");
        x.prove(2);
        Check.due("31: all six worn", x.row(0, 1), 63);
        Check.due("31: none gone", x.row(0, 2), 0);
        Check.due("31: none worn", x.row(1, 1), 0);
        Check.due("31: all six gone", x.row(1, 2), 63);
    }

    private static void proveUpTo96() {
        for (int now = 75; now <= 96; now++) {
            HatFields x = new HatFields();
            x.clock(now);
            int rows = Math.min(20, 96 - now);
            Check.due("30: prove(20) at " + now, x.prove(20), rows);
            Check.due("30: many(3)", x.many(3), rows);
            Check.due("31: the last row", x.row(rows - 1, 0), rows == 0 ? -9 : now + rows);
            Check.due("31: behind it", x.row(rows, 0), -9);
            Check.due("33: all is right", x.judge(), 0);
        }
        List<String> none = new ArrayList<>(List.of("many(3)=0"));
        for (int i = 0; i < 3; i++) {
            for (int what = 0; what < 3; what++) {
                none.add("row(" + i + ", " + what + ")=-9");
            }
        }
        Twins.justThisChanges("30: at 96 there are none then", Twins::late, x -> x.prove(1), 0, none.toArray(new String[0]));
    }

    // ---- 31 and 32: row, alterRow

    private static void rowNumbers() {
        int[][] wrong = {{-1, 0}, {3, 0}, {19, 0}, {20, 0}, {LEAST, 0}, {MOST, 0}, {0, -1}, {0, 3}, {0, LEAST}, {0, MOST}, {2, 3},
            {-1, 3}, {1431655766, 0}, {715827883, 0}};
        for (int[] w : wrong) {
            Twins.nothingChanges("31: row(" + w[0] + ", " + w[1] + ")", Twins::rich, x -> x.row(w[0], w[1]), -9);
            Twins.nothingChanges("32: alterRow(" + w[0] + ", " + w[1] + ", 5)", Twins::rich, x -> x.alterRow(w[0], w[1], 5), -9);
        }
        int[][] due = {{30, 30, 1}, {31, 30, 1}, {32, 30, 1}};
        for (int i = 0; i < 3; i++) {
            for (int what = 0; what < 3; what++) {
                int[] asked = {i, what};
                Twins.nothingChanges("31: row(" + i + ", " + what + ")", Twins::rich, x -> x.row(asked[0], asked[1]), due[i][what]);
            }
        }
        Twins.nothingChanges("31: no ROWS", HatFields::new, x -> x.row(0, 0), -9);
        Twins.nothingChanges("32: no ROWS", HatFields::new, x -> x.alterRow(0, 0, 1), -9);
    }

    private static void alterRow() {
        for (int i = 0; i < 3; i++) {
            for (int what = 0; what < 3; what++) {
                int[] asked = {i, what};
                int was = what == 0 ? 30 + i : what == 1 ? 30 : 1;
                String call = "row(" + i + ", " + what + ")";
                Twins.justThisChanges("32: " + call, Twins::rich, x -> x.alterRow(asked[0], asked[1], -9), was, call + "=-9");
            }
        }
    }

    private static void alterRowNumbers() {
        HatFields x = new HatFields();
        x.prove(20);
        int was = 20;
        for (int v : new int[] {LEAST, MOST, 0, -1, -9, 97}) {
            Check.due("32: the last row becomes " + v, x.alterRow(19, 0, v), was);
            Check.due("31: it is " + v, x.row(19, 0), v);
            was = v;
        }
        Check.due("32: a twenty-first", x.alterRow(20, 0, 1), -9);
        x.prove(20);
        Check.due("30: proved anew", x.row(19, 0), 20);
        x.prove(1);
        x.prove(2);
        Check.due("30: nothing of older rows", x.row(1, 0), 2);
    }

    // ---- 33: judge

    private static void judgeEachRow() {
        for (int i = 0; i < 20; i++) {
            for (int what = 0; what < 3; what++) {
                HatFields x = Twins.rich();
                x.prove(20);
                Check.due("33: all is right", x.judge(), 0);
                int was = x.row(i, what);
                for (int v : new int[] {was + 1, was - 1, -was - 1, was | 64, was | LEAST}) {
                    x.alterRow(i, what, v);
                    Check.due("33: row " + i + ", " + what + " isn't right", x.judge(), i + 1);
                }
                x.alterRow(i, what, was);
                Check.due("33: it is right again", x.judge(), 0);
                x.alterRow(19, 0, 0);
                x.alterRow(i, what, was + 1);
                Check.due("33: the first that isn't", x.judge(), i + 1);
            }
        }
        Twins.nothingChanges("33: judge()", Twins::rich, x -> x.judge(), 0);
    }

    private static void judgeNone() {
        Twins.nothingChanges("33: none", HatFields::new, x -> x.judge(), 0);
        Twins.Made none = () -> {
            HatFields x = Twins.late();
            x.prove(1);
            return x;
        };
        Twins.nothingChanges("33: none at 96", none, x -> x.judge(), 0);
        HatFields x = Twins.rich();
        x.hours(1);
        Check.due("33: wrong ones", x.judge(), 1);
        x.plain();
        Check.due("33: none behind plain()", x.judge(), 0);
    }

    private static void judgeFromNowOn() {
        HatFields x = new HatFields();
        x.prove(20);
        for (int now = 1; now <= 96; now++) {
            x.clock(now);
            Check.due("33: at NOW " + now, x.judge(), 1);
        }
        x.clock(0);
        Check.due("33: back at 0", x.judge(), 0);
        x.hat(0, 0, 1, 4);
        x.wind(7, 1, 3);
        Check.due("33: gone in the eighth hour", x.judge(), 8);
        x.person(4, 0);
        Check.due("33: worn in the first hour", x.judge(), 1);
        Twins.Made moved = () -> {
            HatFields y = Twins.rich();
            y.clock(28);
            return y;
        };
        Twins.nothingChanges("33: wrong ones change nothing", moved, y -> y.judge(), 1);
    }

    /** Rows behind NOW 96 are wrong, whatever is in them. */
    private static void judgeBehind96() {
        for (int left = 0; left < 20; left++) {
            HatFields x = new HatFields();
            x.prove(20);
            x.clock(96 - left);
            for (int i = 0; i < 20; i++) {
                x.alterRow(i, 0, 97 - left + i);
            }
            Check.due("33: with " + left + " hours left", x.judge(), left + 1);
            for (int i = left; i < 20; i++) {
                x.alterRow(i, 0, 96);
            }
            Check.due("33: with " + left + " hours left, NOW stays 96", x.judge(), left + 1);
        }
        HatFields x = new HatFields();
        x.prove(20);
        x.clock(76);
        for (int i = 0; i < 20; i++) {
            x.alterRow(i, 0, 77 + i);
        }
        Check.due("33: twenty hours left", x.judge(), 0);
    }

    // ---- 34: winds

    /** Sheet 0 has 40 bytes: 3 at i if i is even, else 7. */
    private static HatFields sheets() {
        HatFields x = new HatFields();
        x.sheet(0, 0, 40);
        for (int i = 0; i < 40; i++) {
            x.put(0, i, i % 2 == 0 ? 3 : 7);
        }
        return x;
    }

    private static void windsNumbers() {
        for (int n = 0; n <= 24; n++) {
            for (int hour = 0; hour < 24; hour++) {
                HatFields x = sheets();
                for (int h = 0; h < 24; h++) {
                    x.wind(h, 2, 1);
                }
                boolean fits = hour + n <= 24;
                Check.due("34: winds(0, 1, " + hour + ", " + n + ")", x.winds(0, 1, hour, n), fits ? n : BAD);
                for (int h = 0; h < 24; h++) {
                    boolean becomes = fits && h >= hour && h < hour + n;
                    int force = (h - hour) % 2 == 0 ? 7 : 3;
                    Check.due("34: windOf(" + h + ")", x.windOf(h), 20 + (becomes ? force : 1));
                }
            }
        }
        // -11 is held to the 0 that HOUR 22 has, 127 to the 9 of HOUR 23.
        Twins.justThisChanges("34: winds(0, 0, 21, 3)", Twins::rich, x -> x.winds(0, 0, 21, 3), 3, "windOf(21)=5");
        Twins.justThisChanges("34: winds(0, 0, 0, 2)", Twins::rich, x -> x.winds(0, 0, 0, 2), 2, "windOf(0)=5");
    }

    private static void windsHeld() {
        for (int v = -128; v < 128; v++) {
            HatFields x = new HatFields();
            x.wind(9, 3, 5);
            x.sheet(3, 0, 1);
            x.put(3, 0, v);
            Check.due("34: winds", x.winds(3, 0, 9, 1), 1);
            Check.due("34: held to 0 to 9: " + v, x.windOf(9), 30 + (v < 0 ? 0 : v > 9 ? 9 : v));
        }
    }

    private static void windsRefused() {
        int[][] bad = {{-1, 0, 0, 1}, {4, 0, 0, 1}, {LEAST, 0, 0, 1}, {MOST, 0, 0, 1}, {0, 0, -1, 1}, {0, 0, 24, 1}, {0, 0, 24, 0},
            {0, 0, LEAST, 1}, {0, 0, MOST, 1}, {0, 0, 0, -1}, {0, 0, 0, 25}, {0, 0, 0, LEAST}, {0, 0, 0, MOST}, {0, 0, 23, 2},
            {0, 0, 1, 24}, {0, 0, 23, MOST}};
        for (int[] b : bad) {
            windsDue("BAD", b, BAD);
            windsDue("BAD ahead of -12", new int[] {b[0], -1, b[2], b[3]}, BAD);
            if (b[0] == 0) {
                windsDue("BAD ahead of -13", new int[] {1, 0, b[2], b[3]}, BAD);
                windsDue("BAD ahead of -11", new int[] {3, 0, b[2], b[3]}, BAD);
            }
        }
        for (int n : new int[] {0, 1, 24}) {
            windsDue("missing", new int[] {3, 0, 0, n}, MISSING);
            windsDue("-11 ahead of -12", new int[] {3, -1, 0, n}, MISSING);
            for (int sheet = 1; sheet <= 2; sheet++) {
                windsDue("another sort", new int[] {sheet, 0, 0, n}, OTHER_SORT);
                windsDue("-13 ahead of -12", new int[] {sheet, -1, 0, n}, OTHER_SORT);
            }
        }
        HatFields x = new HatFields();
        for (int sort = 0; sort < 4; sort++) {
            x.sheet(0, sort, 3);
            Check.due("34: of sort " + sort, x.winds(0, 0, 0, 1), sort == 0 ? 1 : OTHER_SORT);
        }
    }

    private static void windsDue(String what, int[] w, int answer) {
        String call = "34: winds(" + w[0] + ", " + w[1] + ", " + w[2] + ", " + w[3] + "), " + what;
        Twins.nothingChanges(call, Twins::rich, x -> x.winds(w[0], w[1], w[2], w[3]), answer);
    }

    private static void windsOutside() {
        // Sheet 0 of Twins.rich() has 4 items.
        int[][] outside = {{-1, 0}, {-1, 1}, {5, 0}, {4, 1}, {3, 2}, {0, 5}, {1, 4}, {LEAST, 0}, {LEAST, 24}, {MOST, 0}, {MOST, 24},
            {MOST - 3, 4}};
        for (int[] o : outside) {
            windsDue("outside", new int[] {0, o[0], 0, o[1]}, OUTSIDE);
        }
        int[][] inside = {{0, 0}, {4, 0}, {3, 1}, {0, 4}, {2, 2}};
        for (int[] in : inside) {
            Check.due("34: inside", Twins.rich().winds(0, in[0], 0, in[1]), in[1]);
        }
        for (int i = 0; i <= 4; i++) {
            windsDue("no numbers", new int[] {0, i, 23, 0}, 0);
        }
        HatFields x = new HatFields();
        x.sheet(0, 0, 0);
        Check.due("34: an empty row, nothing of it", x.winds(0, 0, 0, 0), 0);
        Check.due("34: an empty row, one of it", x.winds(0, 0, 0, 1), OUTSIDE);
        Check.due("34: behind an empty row", x.winds(0, 1, 0, 0), OUTSIDE);
        x = sheets();
        Check.due("34: the last 24 of 40", x.winds(0, 16, 0, 24), 24);
        Check.due("34: one too far", x.winds(0, 17, 0, 24), OUTSIDE);
    }
}
