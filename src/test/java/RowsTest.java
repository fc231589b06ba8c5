/** Promises 30 to 34: rows of hours, the reader, forces from a sheet. */
public final class RowsTest {
    public static void main(String[] args) {
        prove();
        alter();
        judge();
        winds();
        Check.finish();
    }

    private static HatFields plain() {
        return Check.told("person 12 speed 1;hat 0 worth 9 on 14;straw 0 worth 5 of 0;felt 0 worth 1 on 0;wind 1 east 2;");
    }

    private static void prove() {
        HatFields x = plain();
        Check.due("30: prove(0)", x.prove(0), HatFields.BAD);
        Check.due("30: prove(21)", x.prove(21), HatFields.BAD);
        Check.due("30: prove(-1)", x.prove(-1), HatFields.BAD);
        Check.due("30: prove(3)", x.prove(3), 3);
        int[][] due = {{1, 2, 0}, {2, 3, 0}, {3, 3, 0}};
        // In the second hour the straw hat flies one step to 14, where its wearer runs and takes both.
        for (int i = 0; i < 3; i++) {
            for (int what = 0; what < 3; what++) {
                Check.due("31: row(" + i + ", " + what + ")", x.row(i, what), due[i][what]);
            }
        }
        Check.due("31: row(3, 0)", x.row(3, 0), -9);
        Check.due("31: row(-1, 0)", x.row(-1, 0), -9);
        Check.due("31: row(0, 3)", x.row(0, 3), -9);
        Check.due("31: row(0, -1)", x.row(0, -1), -9);
        x.wind(0, 1, 9);
        Check.due("30: prove(1)", x.prove(1), 1);
        Check.due("31: gone ones", x.row(0, 2), 3);
        Check.due("31: fewer rows now", x.row(1, 0), -9);
        Check.due("30: many(3)", x.many(3), 1);
        Check.due("30: prove(0)", x.prove(0), HatFields.BAD);
        Check.due("30: rows stay", x.many(3), 1);
        x.clock(94);
        Check.due("30: as far as there are hours", x.prove(20), 2);
        Check.due("31: NOW", x.row(1, 0), 96);
        x.clock(96);
        Check.due("30: none", x.prove(20), 0);
        Check.due("30: many(3)", x.many(3), 0);
        x.clock(76);
        Check.due("30: twenty", x.prove(20), 20);
    }

    private static void alter() {
        HatFields x = plain();
        Check.due("32: no rows", x.alterRow(0, 0, 1), -9);
        x.prove(2);
        Check.due("32: alterRow(1, 0, -7)", x.alterRow(1, 0, -7), 2);
        Check.due("32: alterRow(1, 0, 2)", x.alterRow(1, 0, 2), -7);
        Check.due("32: alterRow(1, 2, 5)", x.alterRow(1, 2, 5), 0);
        Check.due("31: row(1, 2)", x.row(1, 2), 5);
        Check.due("31: row(1, 1)", x.row(1, 1), 3);
        Check.due("31: row(0, 2)", x.row(0, 2), 0);
        Check.due("32: alterRow(2, 0, 0)", x.alterRow(2, 0, 0), -9);
        Check.due("32: alterRow(-1, 0, 0)", x.alterRow(-1, 0, 0), -9);
        Check.due("32: alterRow(0, 3, 0)", x.alterRow(0, 3, 0), -9);
        Check.due("32: alterRow(0, -1, 0)", x.alterRow(0, -1, 0), -9);
        Check.due("33: judge()", x.judge(), 2);
    }

    private static void judge() {
        HatFields x = plain();
        Check.due("33: no rows", x.judge(), 0);
        x.prove(20);
        Check.due("33: all right", x.judge(), 0);
        for (int what = 0; what < 3; what++) {
            int was = x.alterRow(19, what, 64);
            Check.due("33: the last row", x.judge(), 20);
            x.alterRow(19, what, was);
        }
        x.alterRow(5, 1, 0);
        x.alterRow(3, 2, 8);
        Check.due("33: the first wrong one", x.judge(), 4);
        x.prove(4);
        x.wind(2, 1, 9);
        Check.due("33: another wind", x.judge(), 3);
        x.wind(2, 0, 0);
        x.hours(1);
        Check.due("33: from now on", x.judge(), 1);
        x.clock(94);
        x.prove(2);
        Check.due("33: up to 96", x.judge(), 0);
        x.clock(72);
        x.prove(20);
        x.clock(96);
        Check.due("33: behind NOW 96", x.judge(), 1);
        x = new HatFields();
        x.clock(90);
        x.prove(6);
        x.clock(95);
        x.alterRow(0, 0, 96);
        x.alterRow(1, 0, 97);
        Check.due("33: rows behind NOW 96 are wrong", x.judge(), 2);
    }

    private static void winds() {
        HatFields x = new HatFields();
        Check.due("34: missing", x.winds(0, 0, 0, 0), -11);
        x.sheet(0, 0, 30);
        for (int i = 0; i < 30; i++) {
            x.put(0, i, i - 5);
        }
        x.wind(3, 2, 8);
        Check.due("34: winds(0, 0, 0, 24)", x.winds(0, 0, 0, 24), 24);
        Check.due("34: below 0", x.windOf(0), 0);
        Check.due("34: the direction stays", x.windOf(3), 20);
        Check.due("34: as told", x.windOf(7), 2);
        Check.due("34: 9", x.windOf(14), 9);
        Check.due("34: above 9", x.windOf(23), 9);
        Check.due("34: winds(0, 6, 22, 2)", x.winds(0, 6, 22, 2), 2);
        Check.due("34: windOf(22)", x.windOf(22), 1);
        Check.due("34: windOf(23)", x.windOf(23), 2);
        Check.due("34: to the row's end", x.winds(0, 29, 0, 1), 1);
        Check.due("34: nothing at its end", x.winds(0, 30, 0, 0), 0);
        int[][] bad = {{-1, 0, 0, 0}, {4, 0, 0, 0}, {0, 0, -1, 0}, {0, 0, 24, 0}, {0, 0, 0, -1}, {0, 0, 0, 25}, {0, 0, 23, 2}};
        for (int[] b : bad) {
            Check.due("34: BAD", x.winds(b[0], b[1], b[2], b[3]), HatFields.BAD);
        }
        Check.due("34: outside", x.winds(0, 31, 0, 0), -12);
        Check.due("34: outside", x.winds(0, 29, 0, 2), -12);
        Check.due("34: outside", x.winds(0, -1, 0, 0), -12);
        Check.due("34: far outside", x.winds(0, Integer.MAX_VALUE, 0, 24), -12);
        Check.due("34: far outside", x.winds(0, Integer.MIN_VALUE, 0, 24), -12);
        Check.due("34: nothing was changed", x.windOf(0), 9);
        for (int sort = 1; sort < 4; sort++) {
            x.sheet(1, sort, 4);
            Check.due("34: another sort ahead of outside", x.winds(1, 9, 0, 1), -13);
        }
        Check.due("34: BAD ahead of missing", x.winds(2, 0, 24, 1), HatFields.BAD);
        x.sheet(1, 0, 0);
        Check.due("34: an empty row", x.winds(1, 0, 0, 0), 0);
        Check.due("34: an empty row", x.winds(1, 0, 0, 1), -12);
    }
}
