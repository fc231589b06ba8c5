import java.util.ArrayList;
import java.util.LinkedHashMap;
import java.util.List;
import java.util.Map;
import java.util.TreeSet;

/**
 * Two objects made by the same calls, of which one gets one call more; then both are looked at, call by call. So it is
 * seen that a refused call changed nothing, and that another one changed what it must and no more. No object is used
 * for more than 512 calls: each way of looking gets objects of its own.
 */
final class Twins {
    interface Made {
        HatFields object();
    }

    interface Call {
        int on(HatFields x);
    }

    private Twins() {
    }

    /** The call gives this answer and changes nothing: not the tape and not what is kept either. */
    static void nothingChanges(String what, Made made, Call call, int answer) {
        HatFields[] asked = {made.object(), made.object(), made.object()};
        for (HatFields x : asked) {
            Check.due(what, call.on(x), answer);
        }
        sameLook(what + " changes nothing", look(made.object()), look(asked[0]));
        sameLook(what + " leaves what is kept", lookAgain(made.object()), lookAgain(asked[1]));
        sameLook(what + " leaves the tape", lookTold(made.object()), lookTold(asked[2]));
    }

    /** The call gives this answer, and of all that can be seen just these answers become others: "windOf(3)=12". */
    static void justThisChanges(String what, Made made, Call call, int answer, String... due) {
        HatFields x = made.object();
        Check.due(what, call.on(x), answer);
        Map<String, Integer> before = look(made.object());
        List<String> got = new ArrayList<>();
        for (Map.Entry<String, Integer> seen : look(x).entrySet()) {
            if (!seen.getValue().equals(before.get(seen.getKey()))) {
                got.add(seen.getKey() + "=" + seen.getValue());
            }
        }
        boolean right = new TreeSet<>(got).equals(new TreeSet<>(List.of(due)));
        Check.due(what + " changes " + got + "; due are " + List.of(due) + ": right", right ? 1 : 0, 1);
    }

    static void sameLook(String what, Map<String, Integer> due, Map<String, Integer> got) {
        for (Map.Entry<String, Integer> seen : due.entrySet()) {
            Check.due(what + ": " + seen.getKey(), got.get(seen.getKey()), seen.getValue());
        }
    }

    /** All that calls tell without changing something; z is asked for and put back. */
    static Map<String, Integer> look(HatFields x) {
        Map<String, Integer> seen = new LinkedHashMap<>();
        lookAtPlain(seen, x);
        for (int what = 3; what <= 5; what++) {
            seen.put("many(" + what + ")", x.many(what));
        }
        for (int i = 0; i < 4; i++) {
            for (int what = 0; what < 3; what++) {
                seen.put("row(" + i + ", " + what + ")", x.row(i, what));
            }
        }
        for (int i = 0; i < 12; i++) {
            seen.put("trace(" + i + ")", x.trace(i));
        }
        for (int n = 0; n < 4; n++) {
            lookAtSheet(seen, x, n);
            for (int as = 0; as < 14; as += as == 5 ? 5 : 1) {
                seen.put("taken(" + n + ", " + as + ")", x.taken(n, as));
            }
        }
        return seen;
    }

    /** What keep() keeps. */
    static void lookAtPlain(Map<String, Integer> seen, HatFields x) {
        for (int hour = 0; hour < 24; hour++) {
            seen.put("windOf(" + hour + ")", x.windOf(hour));
        }
        for (int p = 0; p < 5; p++) {
            for (int what = 0; what < 4; what++) {
                seen.put("personOf(" + p + ", " + what + ")", x.personOf(p, what));
            }
        }
        for (int h = 0; h < 6; h++) {
            for (int what = 0; what < 7; what++) {
                seen.put("hatOf(" + h + ", " + what + ")", x.hatOf(h, what));
            }
        }
        for (int what : new int[] {0, 1, 2, 6}) {
            seen.put("many(" + what + ")", x.many(what));
        }
        int z = x.seed(0);
        x.seed(z);
        seen.put("z", z);
    }

    private static void lookAtSheet(Map<String, Integer> seen, HatFields x, int sheet) {
        for (int sort = 0; sort < 4; sort++) {
            for (int i = 0; i < 5; i++) {
                seen.put("item(" + sheet + ", " + sort + ", " + i + ")", x.item(sheet, sort, i));
            }
        }
    }

    private static Map<String, Integer> lookAgain(HatFields x) {
        int answer = x.again();
        Map<String, Integer> seen = look(x);
        seen.put("again()", answer);
        return seen;
    }

    private static Map<String, Integer> lookTold(HatFields x) {
        int answer = x.plain();
        Map<String, Integer> seen = look(x);
        seen.put("plain()", answer);
        return seen;
    }

    /**
     * Something of everything. NOW 29, so HOUR 5, which has wind. Hat 0 is gone, 1 is worn by 0, 2 by 1, 3 lies where
     * nobody is, 4 where people 0 and 1 are. Sheets of bytes, shorts and longs, the last one missing; on the shelves a
     * hat, a row, the gone hat, nothing. A text on the tape, a trace, three rows, and another plain kept.
     */
    static HatFields rich() {
        HatFields x = new HatFields();
        x.hat(4, 2, 5, 0);
        x.wind(0, 0, 1);
        x.hours(1);
        x.person(7, 3);
        x.seed(-31);
        x.keep();
        x.moves(0, 12);
        x.speed(0, 2);
        x.person(12, 0);
        x.person(3, 1);
        x.hat(0, 3, 40, 12);
        x.puts(1, 0);
        x.hat(3, 8, 9, 12);
        x.puts(2, 1);
        x.hat(2, 1, 20, 6);
        x.hat(1, 5, 7, 12);
        x.wind(5, 1, 4);
        x.wind(23, 3, 9);
        x.clock(29);
        x.seed(77);
        x.prove(3);
        richHost(x);
        Check.feed(x, "now 9; person 1;");
        return x;
    }

    private static void richHost(HatFields x) {
        x.sheet(0, 0, 4);
        x.put(0, 0, 5);
        x.put(0, 1, -11);
        x.put(0, 2, 127);
        x.sheet(1, 1, 3);
        x.put(1, 2, -300);
        x.sheet(2, 3, 2);
        x.put(2, 0, 70000);
        x.shelf(0, 0, 1);
        x.shelf(1, 1, 0);
        x.shelf(2, 0, 0);
        x.act(0, 3, 5);
    }

    /** As rich(), but with five people, six hats, and 200 bytes on the tape. */
    static HatFields full() {
        HatFields x = rich();
        x.person(24, 3);
        x.person(0, 0);
        x.hat(5, 9, 99, 24);
        Check.feed(x, " ".repeat(200 - x.many(4)));
        return x;
    }

    /** As rich(), but that NOW is 96. */
    static HatFields late() {
        HatFields x = rich();
        x.clock(96);
        return x;
    }
}
