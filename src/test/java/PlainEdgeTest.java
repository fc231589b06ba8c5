/** The edges of promises 1, 2 and 4 to 16: first and last numbers, full ones, refusals, their order, what changes. */
public final class PlainEdgeTest {
    private static final int BAD = HatFields.BAD, FULL = HatFields.FULL, STATE = HatFields.STATE;
    private static final int LEAST = Integer.MIN_VALUE, MOST = Integer.MAX_VALUE;

    public static void main(String[] args) {
        nothingAtFirst();
        feedSizes();
        feedRefused();
        feedBytes();
        windNumbers();
        windRefused();
        personNumbers();
        personRefused();
        personOf();
        moves();
        speed();
        hatNumbers();
        hatRefused();
        hatOf();
        make();
        puts();
        down();
        found();
        bow();
        Check.finish();
    }

    // ---- 1: no PEOPLE, no HATS, no WIND; nothing is kept

    private static void nothingAtFirst() {
        HatFields x = new HatFields();
        Twins.look(x).forEach((call, answer) -> Check.due("1: " + call, answer, atFirst(call)));
        Twins.nothingChanges("1: again()", HatFields::new, y -> y.again(), HatFields.NONE);
        Check.due("1: plain() of the empty tape", x.plain(), 0);
        HatFields one = new HatFields();
        HatFields other = new HatFields();
        one.person(3, 3);
        one.wind(3, 3, 3);
        one.sheet(0, 0, 3);
        Check.due("1: objects share nothing: people", other.many(0), 0);
        Check.due("1: objects share nothing: winds", other.windOf(3), 0);
        Check.due("1: objects share nothing: sheets", other.item(0, 0, 0), -11);
    }

    private static int atFirst(String call) {
        if (call.startsWith("personOf") || call.startsWith("hatOf")) {
            return BAD;
        }
        if (call.startsWith("row")) {
            return -9;
        }
        if (call.startsWith("trace")) {
            return HatFields.NONE;
        }
        if (call.startsWith("item") || call.startsWith("taken")) {
            return -11;
        }
        return call.equals("z") ? 1 : 0;
    }

    // ---- 2: feed

    private static void feedSizes() {
        for (int n = 1; n <= 8; n++) {
            int due = 16 + n;
            Twins.justThisChanges("2: feed of " + n, Twins::rich, feeding(n), due, "many(4)=" + due);
        }
        for (int n : new int[] {0, 9, -1, -8, LEAST, MOST}) {
            Twins.nothingChanges("2: feed of " + n, Twins::rich, feeding(n), BAD);
        }
        HatFields x = new HatFields();
        for (int i = 1; i <= 200; i++) {
            Check.due("2: feed, one by one", x.feed(32, 1), i);
        }
        Check.due("2: the 201st", x.feed(32, 1), FULL);
        Check.due("2: as many as before", x.many(4), 200);
    }

    private static Twins.Call feeding(int n) {
        return x -> x.feed(0x2020202020202020L, n);
    }

    private static void feedRefused() {
        for (int n = 1; n <= 8; n++) {
            Twins.nothingChanges("2: feed of " + n + " onto 200", Twins::full, feeding(n), FULL);
            HatFields x = new HatFields();
            Check.feed(x, " ".repeat(200 - n));
            Check.due("2: up to 200 by " + n, x.feed(-1, n), 200);
            int tooMany = n;
            Twins.Made almost = () -> fedWith(201 - tooMany);
            Twins.nothingChanges("2: up to 201 by " + n + ": not one byte comes", almost, feeding(n), FULL);
        }
        for (int n : new int[] {0, 9, -1, LEAST, MOST}) {
            Twins.nothingChanges("2: BAD ahead of FULL, " + n, Twins::full, feeding(n), BAD);
        }
    }

    private static HatFields fedWith(int bytes) {
        HatFields x = new HatFields();
        Check.feed(x, " ".repeat(bytes));
        return x;
    }

    private static void feedBytes() {
        long text = 0;
        for (int i = 7; i >= 0; i--) {
            text = text << 8 | " now 96;".charAt(i);
        }
        HatFields x = new HatFields();
        x.feed(text, 8);
        Check.due("2: the lowest of eight first", x.plain(), 0);
        Check.due("2: all eight came", x.many(2), 96);
        x.feed(text, 6);
        Check.due("2: six of eight came", x.plain(), -106);
        x.feed(text, 7);
        Check.due("2: seven of eight came", x.plain(), -107);
        x.feed(text & 0x00ffffffffffffffL, 7);
        x.feed(0x123456789abcde3bL, 1);
        Check.due("2: one byte, what stands above it counts nothing", x.plain(), 0);
        x.feed(-1L << 8 | ' ', 1);
        x.feed(-1L, 1);
        Check.due("2: the byte 255", x.plain(), -101);
    }

    // ---- 4 and 5: wind, windOf

    private static void windNumbers() {
        for (int hour = 0; hour < 24; hour++) {
            int was = hour == 0 ? 1 : hour == 5 ? 14 : hour == 23 ? 39 : 0;
            int h = hour;
            if (hour != 5) {
                Twins.justThisChanges("4: wind of " + hour, Twins::rich, x -> x.wind(h, 2, 7), was, "windOf(" + hour + ")=27");
            }
            Check.due("5: windOf(" + hour + ")", Twins.rich().windOf(hour), was);
        }
        HatFields x = new HatFields();
        int was = 0;
        for (int direction = 0; direction < 4; direction++) {
            for (int force = 0; force < 10; force++) {
                Check.due("4: what it was", x.wind(11, direction, force), was);
                was = 10 * direction + force;
                Check.due("5: what it is", x.windOf(11), was);
            }
        }
    }

    private static void windRefused() {
        int[][] wrong = {{-1, 1, 1}, {24, 1, 1}, {LEAST, 1, 1}, {MOST, 1, 1}, {5, -1, 1}, {5, 4, 1}, {5, LEAST, 1}, {5, MOST, 1},
            {5, 1, -1}, {5, 1, 10}, {5, 1, LEAST}, {5, 1, MOST}, {-1, -1, -1}};
        for (int[] w : wrong) {
            String call = "4: wind(" + w[0] + ", " + w[1] + ", " + w[2] + ")";
            Twins.nothingChanges(call, Twins::rich, x -> x.wind(w[0], w[1], w[2]), BAD);
        }
        for (int hour : new int[] {-1, 24, LEAST, MOST}) {
            Twins.nothingChanges("5: windOf(" + hour + ")", Twins::rich, x -> x.windOf(hour), BAD);
        }
        Twins.nothingChanges("5: windOf(5)", Twins::rich, x -> x.windOf(5), 14);
    }

    // ---- 6 and 7: person, personOf

    private static void personNumbers() {
        for (int place = 0; place < 25; place++) {
            for (int speed = 0; speed < 4; speed++) {
                HatFields x = new HatFields();
                Check.due("6: person(" + place + ", " + speed + ")", x.person(place, speed), 0);
                Check.due("7: PLACE", x.personOf(0, 0), place);
                Check.due("7: SPEED", x.personOf(0, 1), speed);
            }
        }
        Twins.justThisChanges("6: person(12, 3)", Twins::rich, x -> x.person(12, 3), 3, "many(0)=4",
            "personOf(3, 0)=12", "personOf(3, 1)=3", "personOf(3, 2)=0", "personOf(3, 3)=0");
        HatFields x = new HatFields();
        for (int i = 0; i < 5; i++) {
            Check.due("6: numbered as they come", x.person(24, 0), i);
        }
        Check.due("6: 5 at most", x.person(24, 0), FULL);
        Check.due("7: a sixth there is not", x.personOf(5, 0), BAD);
    }

    private static void personRefused() {
        int[][] wrong = {{-1, 1}, {25, 1}, {LEAST, 1}, {MOST, 1}, {0, -1}, {0, 4}, {0, LEAST}, {0, MOST}, {25, 4}};
        for (int[] w : wrong) {
            String call = "6: person(" + w[0] + ", " + w[1] + ")";
            Twins.nothingChanges(call, Twins::rich, x -> x.person(w[0], w[1]), BAD);
            Twins.nothingChanges(call + ", BAD ahead of FULL", Twins::full, x -> x.person(w[0], w[1]), BAD);
        }
        Twins.nothingChanges("6: a sixth", Twins::full, x -> x.person(0, 0), FULL);
        Twins.nothingChanges("6: a sixth", Twins::full, x -> x.person(24, 3), FULL);
    }

    private static void personOf() {
        int[][] due = {{12, 2, 40, 2}, {12, 0, 9, 4}, {3, 1, 0, 0}};
        for (int p = 0; p < 3; p++) {
            for (int what = 0; what < 4; what++) {
                int[] asked = {p, what};
                String call = "7: personOf(" + p + ", " + what + ")";
                Twins.nothingChanges(call, Twins::rich, x -> x.personOf(asked[0], asked[1]), due[p][what]);
            }
        }
        int[][] wrong = {{-1, 0}, {3, 0}, {LEAST, 0}, {MOST, 0}, {0, -1}, {0, 4}, {0, LEAST}, {0, MOST}};
        for (int[] w : wrong) {
            String call = "7: personOf(" + w[0] + ", " + w[1] + ")";
            Twins.nothingChanges(call, Twins::rich, x -> x.personOf(w[0], w[1]), BAD);
        }
        HatFields x = Check.told("person 4;hat 0 worth 99 of 0;hat 0 worth 99 of 0;hat 0 worth 99 of 0;hat 0 worth 99 of 0;"
            + "hat 0 worth 99 of 0;hat 0 worth 99 of 0;");
        Check.due("7: OWNS at most", x.personOf(0, 2), 594);
        Check.due("7: one may wear many: all six", x.personOf(0, 3), 63);
        Check.due("19: OWNS at most", x.owns(0, 48), 594);
    }

    // ---- 8 and 9: moves, speed

    private static void moves() {
        for (int place = 0; place < 25; place++) {
            HatFields x = Twins.rich();
            Check.due("8: moves(2, " + place + ")", x.moves(2, place), 3);
            Check.due("8: there", x.personOf(2, 0), place);
            Check.due("8: nothing is put on", x.personOf(2, 3), 0);
        }
        Twins.justThisChanges("8: moves(2, 12)", Twins::rich, x -> x.moves(2, 12), 3, "personOf(2, 0)=12");
        Twins.justThisChanges("8: moves(0, 6)", Twins::rich, x -> x.moves(0, 6), 12, "personOf(0, 0)=6", "hatOf(1, 4)=6");
        Twins.nothingChanges("8: to where one is", Twins::rich, x -> x.moves(0, 12), 12);
        int[][] wrong = {{-1, 1}, {3, 1}, {LEAST, 1}, {MOST, 1}, {0, -1}, {0, 25}, {0, LEAST}, {0, MOST}};
        for (int[] w : wrong) {
            String call = "8: moves(" + w[0] + ", " + w[1] + ")";
            Twins.nothingChanges(call, Twins::rich, x -> x.moves(w[0], w[1]), BAD);
        }
    }

    private static void speed() {
        for (int v = 0; v < 4; v++) {
            HatFields x = Twins.rich();
            Check.due("9: speed(0, " + v + ")", x.speed(0, v), 2);
            Check.due("9: SPEED", x.personOf(0, 1), v);
        }
        Twins.justThisChanges("9: speed(2, 3)", Twins::rich, x -> x.speed(2, 3), 1, "personOf(2, 1)=3");
        Twins.justThisChanges("9: speed(0, 0)", Twins::rich, x -> x.speed(0, 0), 2, "personOf(0, 1)=0");
        int[][] wrong = {{-1, 1}, {3, 1}, {LEAST, 1}, {MOST, 1}, {0, -1}, {0, 4}, {0, LEAST}, {0, MOST}};
        for (int[] w : wrong) {
            String call = "9: speed(" + w[0] + ", " + w[1] + ")";
            Twins.nothingChanges(call, Twins::rich, x -> x.speed(w[0], w[1]), BAD);
        }
    }

    // ---- 10 and 11: hat, hatOf

    private static void hatNumbers() {
        for (int kind = 0; kind < 6; kind++) {
            for (int a = 0; a < 10; a++) {
                hatLies(kind, a, 50, 12);
            }
        }
        for (int worth = 0; worth < 100; worth++) {
            hatLies(0, 0, worth, 12);
        }
        for (int place = 0; place < 25; place++) {
            hatLies(0, 0, 50, place);
        }
        Twins.justThisChanges("10: hat(5, 9, 99, 12)", Twins::rich, x -> x.hat(5, 9, 99, 12), 5, "many(1)=6", "hatOf(5, 0)=5",
            "hatOf(5, 1)=9", "hatOf(5, 2)=99", "hatOf(5, 3)=-9", "hatOf(5, 4)=12", "hatOf(5, 5)=4", "hatOf(5, 6)=0");
        HatFields x = new HatFields();
        for (int i = 0; i < 6; i++) {
            Check.due("10: numbered as they come", x.hat(0, 0, 0, 0), i);
        }
        Check.due("10: 6 at most", x.hat(0, 0, 0, 0), FULL);
        Check.due("11: a seventh there is not", x.hatOf(6, 0), BAD);
    }

    private static void hatLies(int kind, int a, int worth, int place) {
        HatFields x = new HatFields();
        x.person(place, 0);
        Check.due("10: hat", x.hat(kind, a, worth, place), 0);
        int[] due = {kind, a, worth, -9, place};
        for (int what = 0; what < 5; what++) {
            Check.due("11: hatOf(0, " + what + ")", x.hatOf(0, what), due[what]);
        }
    }

    private static void hatRefused() {
        int[] right = {0, 1, 2, 3};
        int[][] wrong = {{-1, 6}, {-1, 10}, {-1, 100}, {-1, 25}};
        for (int at = 0; at < 4; at++) {
            for (int v : new int[] {wrong[at][0], wrong[at][1], LEAST, MOST}) {
                int[] n = right.clone();
                n[at] = v;
                String call = "10: hat(" + n[0] + ", " + n[1] + ", " + n[2] + ", " + n[3] + ")";
                Twins.nothingChanges(call, Twins::rich, x -> x.hat(n[0], n[1], n[2], n[3]), BAD);
                Twins.nothingChanges(call + ", BAD ahead of FULL", Twins::full, x -> x.hat(n[0], n[1], n[2], n[3]), BAD);
            }
        }
        Twins.nothingChanges("10: a seventh", Twins::full, x -> x.hat(0, 0, 0, 0), FULL);
        Twins.nothingChanges("10: a seventh", Twins::full, x -> x.hat(5, 9, 99, 24), FULL);
    }

    private static void hatOf() {
        // The wind of HOUR 5 has FORCE 4.
        int[][] due = {{4, 2, 5, -9, -9, 1, 4}, {0, 3, 40, 0, 12, 3, 1}, {3, 8, 9, 1, 12, 14, 1}, {2, 1, 20, -9, 6, 1, 2},
            {1, 5, 7, -9, 12, 5, 1}};
        for (int h = 0; h < 5; h++) {
            for (int what = 0; what < 7; what++) {
                int[] asked = {h, what};
                String call = "11: hatOf(" + h + ", " + what + ")";
                Twins.nothingChanges(call, Twins::rich, x -> x.hatOf(asked[0], asked[1]), due[h][what]);
            }
        }
        int[][] wrong = {{-1, 0}, {5, 0}, {LEAST, 0}, {MOST, 0}, {0, -1}, {0, 7}, {0, LEAST}, {0, MOST}};
        for (int[] w : wrong) {
            String call = "11: hatOf(" + w[0] + ", " + w[1] + ")";
            Twins.nothingChanges(call, Twins::rich, x -> x.hatOf(w[0], w[1]), BAD);
        }
        hatOfByKind();
        hatOfByHour();
    }

    private static void hatOfByKind() {
        int[][] holds = {{3, 3, 3, 3, 3, 3, 3, 3, 3, 3}, {3, 3, 4, 4, 5, 5, 6, 6, 7, 7}, {1, 1, 1, 1, 1, 1, 1, 1, 1, 1},
            {6, 6, 8, 8, 10, 10, 12, 12, 14, 14}, {1, 0, 1, 0, 1, 0, 1, 0, 1, 0}, {4, 4, 4, 4, 4, 4, 4, 4, 4, 4}};
        int[][] flies = {{0, 0, 0, 1, 1, 1, 2, 2, 2, 3}, {0, 0, 0, 1, 1, 1, 2, 2, 2, 3}, {0, 1, 1, 2, 2, 2, 3, 3, 3, 4},
            {0, 0, 0, 1, 1, 1, 2, 2, 2, 3}, {0, 2, 2, 4, 4, 4, 6, 6, 6, 8}, {0, 0, 0, 0, 0, 0, 1, 1, 1, 1}};
        for (int kind = 0; kind < 6; kind++) {
            for (int v = 0; v < 10; v++) {
                HatFields x = new HatFields();
                x.hat(kind, v, 0, 0);
                x.wind(0, 1, v);
                Check.due("11: HOLDS, kind " + kind + ", A " + v, x.hatOf(0, 5), holds[kind][v]);
                Check.due("11: FLIES, kind " + kind + ", FORCE " + v, x.hatOf(0, 6), flies[kind][v]);
            }
        }
    }

    private static void hatOfByHour() {
        HatFields x = new HatFields();
        x.hat(2, 0, 0, 0);
        int[] forces = {0, 1, 3, 6, 9};
        for (int hour = 0; hour < 24; hour++) {
            x.wind(hour, 1, forces[hour % 5]);
        }
        for (int now = 0; now <= 96; now++) {
            x.clock(now);
            Check.due("11: FLIES in the HOUR of NOW " + now, x.hatOf(0, 6), now % 24 % 5);
        }
    }

    // ---- 12: make

    private static void make() {
        for (int kind = 0; kind < 6; kind++) {
            for (int a = 0; a < 10; a++) {
                HatFields x = Twins.rich();
                Check.due("12: make(2, " + kind + ", " + a + ")", x.make(2, kind, a), 3);
                int[] due = {kind, a, 9, 1, 12};
                for (int what = 0; what < 5; what++) {
                    Check.due("12: hatOf(2, " + what + ")", x.hatOf(2, what), due[what]);
                }
            }
        }
        Twins.justThisChanges("12: make of a worn one", Twins::rich, x -> x.make(2, 5, 9), 3, "hatOf(2, 0)=5", "hatOf(2, 1)=9",
            "hatOf(2, 5)=4", "hatOf(2, 6)=0");
        Twins.justThisChanges("12: make of one that lies", Twins::rich, x -> x.make(3, 4, 1), 2, "hatOf(3, 0)=4", "hatOf(3, 5)=0",
            "hatOf(3, 6)=4");
        Twins.justThisChanges("12: make of a gone one", Twins::rich, x -> x.make(0, 2, 3), 4, "hatOf(0, 0)=2", "hatOf(0, 1)=3",
            "hatOf(0, 6)=2", "taken(2, 4)=-13");
        int[][] wrong = {{-1, 0, 0}, {5, 0, 0}, {LEAST, 0, 0}, {MOST, 0, 0}, {1, -1, 0}, {1, 6, 0}, {1, LEAST, 0}, {1, MOST, 0},
            {1, 0, -1}, {1, 0, 10}, {1, 0, LEAST}, {1, 0, MOST}};
        for (int[] w : wrong) {
            String call = "12: make(" + w[0] + ", " + w[1] + ", " + w[2] + ")";
            Twins.nothingChanges(call, Twins::rich, x -> x.make(w[0], w[1], w[2]), BAD);
        }
    }

    // ---- 13 to 15: puts, down, found

    private static void puts() {
        Twins.justThisChanges("13: puts(4, 0)", Twins::rich, x -> x.puts(4, 0), 1, "hatOf(4, 3)=0", "personOf(0, 2)=47",
            "personOf(0, 3)=18");
        Twins.justThisChanges("13: puts(4, 1)", Twins::rich, x -> x.puts(4, 1), 1, "hatOf(4, 3)=1", "personOf(1, 2)=16",
            "personOf(1, 3)=20");
        int[][] state = {{1, 0}, {1, 1}, {2, 0}, {0, 0}, {0, 2}, {3, 0}, {3, 2}, {4, 2}};
        for (int[] s : state) {
            String call = "13: puts(" + s[0] + ", " + s[1] + "), worn, gone or elsewhere";
            Twins.nothingChanges(call, Twins::rich, x -> x.puts(s[0], s[1]), STATE);
        }
        int[][] wrong = {{-1, 0}, {5, 0}, {LEAST, 0}, {MOST, 0}, {4, -1}, {4, 3}, {4, LEAST}, {4, MOST}};
        for (int[] w : wrong) {
            Twins.nothingChanges("13: puts(" + w[0] + ", " + w[1] + ")", Twins::rich, x -> x.puts(w[0], w[1]), BAD);
        }
        for (int hat : new int[] {0, 1, 3}) {
            Twins.nothingChanges("13: BAD ahead of STATE, hat " + hat, Twins::rich, x -> x.puts(hat, 3), BAD);
        }
        oneColumnOrRowAside();
    }

    private static void oneColumnOrRowAside() {
        for (int place = 0; place < 25; place++) {
            HatFields x = new HatFields();
            x.person(12, 3);
            x.hat(0, 0, 1, place);
            Check.due("13: one in 12 puts on what lies in " + place, x.puts(0, 0), place == 12 ? 1 : STATE);
        }
    }

    private static void down() {
        Twins.justThisChanges("14: down(1)", Twins::rich, x -> x.down(1), 12, "hatOf(1, 3)=-9", "personOf(0, 2)=0", "personOf(0, 3)=0");
        Twins.justThisChanges("14: down(2)", Twins::rich, x -> x.down(2), 12, "hatOf(2, 3)=-9", "personOf(1, 2)=0", "personOf(1, 3)=0");
        for (int hat : new int[] {0, 3, 4}) {
            Twins.nothingChanges("14: down(" + hat + ") of one that isn't worn", Twins::rich, x -> x.down(hat), STATE);
        }
        for (int hat : new int[] {-1, 5, LEAST, MOST}) {
            Twins.nothingChanges("14: down(" + hat + ")", Twins::rich, x -> x.down(hat), BAD);
        }
        for (int place = 0; place < 25; place++) {
            HatFields x = Twins.rich();
            x.moves(0, place);
            Check.due("14: where", x.down(1), place);
            Check.due("14: it lies there", x.hatOf(1, 4), place);
        }
    }

    private static void found() {
        Twins.justThisChanges("15: found(0, 12)", Twins::rich, x -> x.found(0, 12), 1, "hatOf(0, 4)=12", "many(6)=0");
        for (int place = 0; place < 25; place++) {
            HatFields x = Twins.rich();
            Check.due("15: found(0, " + place + ")", x.found(0, place), 1);
            Check.due("15: there", x.hatOf(0, 4), place);
            Check.due("15: nobody wears it", x.hatOf(0, 3), -9);
        }
        for (int hat = 1; hat < 5; hat++) {
            int h = hat;
            Twins.nothingChanges("15: found(" + hat + ", 0) of one that isn't gone", Twins::rich, x -> x.found(h, 0), STATE);
            Twins.nothingChanges("15: BAD ahead of STATE, hat " + hat, Twins::rich, x -> x.found(h, 25), BAD);
            Twins.nothingChanges("15: BAD ahead of STATE, hat " + hat, Twins::rich, x -> x.found(h, -1), BAD);
        }
        int[][] wrong = {{-1, 0}, {5, 0}, {LEAST, 0}, {MOST, 0}, {0, -1}, {0, 25}, {0, LEAST}, {0, MOST}};
        for (int[] w : wrong) {
            Twins.nothingChanges("15: found(" + w[0] + ", " + w[1] + ")", Twins::rich, x -> x.found(w[0], w[1]), BAD);
        }
    }

    // ---- 16: bow

    private static void bow() {
        String[] swapped = {"hatOf(1, 3)=1", "hatOf(2, 3)=0", "personOf(0, 2)=9", "personOf(0, 3)=4", "personOf(1, 2)=40",
            "personOf(1, 3)=2"};
        Twins.justThisChanges("16: bow(0, 1)", Twins::rich, x -> x.bow(0, 1), 2, swapped);
        Twins.justThisChanges("16: bow(1, 0)", Twins::rich, x -> x.bow(1, 0), 2, swapped);
        int[][] state = {{0, 2}, {2, 0}, {1, 2}, {2, 1}};
        for (int[] s : state) {
            Twins.nothingChanges("16: not in one PLACE", Twins::rich, x -> x.bow(s[0], s[1]), STATE);
        }
        int[][] wrong = {{0, 0}, {1, 1}, {2, 2}, {-1, 0}, {3, 0}, {0, -1}, {0, 3}, {LEAST, 0}, {MOST, 0}, {0, LEAST}, {0, MOST},
            {-1, -1}, {3, 3}, {3, 4}};
        for (int[] w : wrong) {
            Twins.nothingChanges("16: bow(" + w[0] + ", " + w[1] + ")", Twins::rich, x -> x.bow(w[0], w[1]), BAD);
        }
        Twins.Made oneSided = () -> Check.told("person 9;person 9;hat 0 worth 3 of 1;hat 0 worth 4 of 1;");
        Twins.justThisChanges("16: one wears none", oneSided, x -> x.bow(0, 1), 2, "hatOf(0, 3)=0", "hatOf(1, 3)=0",
            "personOf(0, 2)=7", "personOf(0, 3)=3", "personOf(1, 2)=0", "personOf(1, 3)=0");
        Twins.Made bare = () -> Check.told("person 9;person 9;person 8;hat 0 worth 3 of 2;hat 0 worth 4 on 9;");
        Twins.nothingChanges("16: both wear none", bare, x -> x.bow(0, 1), 0);
        HatFields x = Check.told("person 9;person 9;hat 0 worth 1 of 0;hat 0 worth 1 of 1;hat 0 worth 1 of 0;hat 0 worth 1 of 1;"
            + "hat 0 worth 1 of 0;hat 0 worth 1 of 0;");
        Check.due("16: all six change heads", x.bow(0, 1), 6);
        Check.due("16: HATS of 0", x.personOf(0, 3), 10);
        Check.due("16: HATS of 1", x.personOf(1, 3), 53);
    }
}
