/** The edges of promises 17 and 18, and of how an hour goes. */
public final class HoursEdgeTest {
    private static final int BAD = HatFields.BAD;
    private static final int LEAST = Integer.MIN_VALUE, MOST = Integer.MAX_VALUE;

    public static void main(String[] args) {
        hoursNumbers();
        hoursAsFarAsThereAreSuch();
        clock();
        hourOfNow();
        holdsLessThanForce();
        blownOffWhereOneStands();
        fliesFromEveryPlace();
        goneForGood();
        allFlyBeforeOneRuns();
        runsSoFar();
        columnsFirst();
        nearestOfTwo();
        putsOnAllThatLieThere();
        nothingToRunFor();
        oneByOne();
        noWindFromElsewhere();
        Check.finish();
    }

    // ---- 17: n HOURS (0 to 48) go, as far as there are such

    private static void hoursNumbers() {
        for (int n = 0; n <= 48; n++) {
            HatFields x = new HatFields();
            Check.due("17: hours(" + n + ")", x.hours(n), n);
            Check.due("17: NOW", x.many(2), n);
        }
        for (int n : new int[] {-1, 49, 96, 97, LEAST, MOST}) {
            Twins.nothingChanges("17: hours(" + n + ")", Twins::rich, x -> x.hours(n), BAD);
            Twins.nothingChanges("17: hours(" + n + ") at the end", Twins::late, x -> x.hours(n), BAD);
        }
        Twins.nothingChanges("17: hours(0)", Twins::rich, x -> x.hours(0), 29);
        // East 4: hat 1 falls to 12; hats 1 and 4 fly to 13, hat 3 two steps to 8. Person 0 runs for hat 1 and has 4 with
        // it, person 1 has no steps, person 2 runs for hat 3 and is there.
        Twins.justThisChanges("17: hours(1)", Twins::rich, x -> x.hours(1), 30, "many(2)=30", "personOf(0, 0)=13",
            "personOf(0, 2)=47", "personOf(0, 3)=18", "hatOf(1, 4)=13", "hatOf(4, 3)=0", "hatOf(4, 4)=13", "personOf(2, 0)=8",
            "personOf(2, 2)=20", "personOf(2, 3)=8", "hatOf(3, 3)=2", "hatOf(3, 4)=8", "hatOf(0, 6)=0", "hatOf(1, 6)=0",
            "hatOf(2, 6)=0", "hatOf(3, 6)=0", "hatOf(4, 6)=0");
    }

    private static void hoursAsFarAsThereAreSuch() {
        for (int now = 44; now <= 96; now++) {
            for (int n : new int[] {0, 1, 2, 47, 48}) {
                HatFields x = new HatFields();
                x.clock(now);
                Check.due("17: hours(" + n + ") at " + now, x.hours(n), Math.min(96, now + n));
            }
        }
        for (int n : new int[] {0, 1, 48}) {
            Twins.nothingChanges("17: hours(" + n + ") at 96", Twins::late, x -> x.hours(n), 96);
        }
        HatFields x = Check.told("hat 0 worth 1 on 0;wind 23 south 3;wind 0 east 3;now 95;");
        x.hours(48);
        Check.due("17: the 96th hour goes, and no other", x.hatOf(0, 4), 5);
    }

    // ---- 18: NOW becomes v (0 to 96)

    private static void clock() {
        HatFields x = new HatFields();
        int was = 0;
        for (int v = 0; v <= 96; v++) {
            Check.due("18: clock(" + v + ")", x.clock(v), was);
            Check.due("18: NOW", x.many(2), v);
            was = v;
        }
        for (int v : new int[] {-1, 97, LEAST, MOST}) {
            Twins.nothingChanges("18: clock(" + v + ")", Twins::rich, y -> y.clock(v), BAD);
        }
        Twins.justThisChanges("18: clock(5)", Twins::rich, y -> y.clock(5), 29, "many(2)=5");
        Twins.justThisChanges("18: clock(95)", Twins::rich, y -> y.clock(95), 29, "many(2)=95", "hatOf(0, 6)=8", "hatOf(1, 6)=3",
            "hatOf(2, 6)=3", "hatOf(3, 6)=4", "hatOf(4, 6)=3");
        Twins.nothingChanges("18: as it is", Twins::rich, y -> y.clock(29), 29);
    }

    /** The HOUR of NOW is the rest of NOW by 24. */
    private static void hourOfNow() {
        for (int now = 0; now < 96; now++) {
            for (int hour = 0; hour < 24; hour++) {
                HatFields x = new HatFields();
                x.hat(0, 0, 1, 12);
                x.clock(now);
                x.wind(hour, 1, 3);
                x.hours(1);
                Check.due("the wind of " + hour + " at NOW " + now, x.hatOf(0, 4), hour == now % 24 ? 13 : 12);
            }
        }
    }

    // ---- each worn HAT whose HOLDS is less than FORCE

    private static void holdsLessThanForce() {
        for (int kind = 0; kind < 6; kind++) {
            for (int a = 0; a < 10; a++) {
                for (int force = 0; force < 10; force++) {
                    HatFields x = wornAtTheEdge(kind, a);
                    int holds = x.hatOf(0, 5);
                    x.wind(0, 3, force);
                    boolean flies = x.hatOf(0, 6) > 0;
                    x.hours(1);
                    // At the edge each step is one too many; one that falls and doesn't fly is put on again.
                    boolean gone = holds < force && flies;
                    Check.due("kind " + kind + ", A " + a + " in " + force, x.hatOf(0, 3), gone ? -9 : 0);
                    Check.due("kind " + kind + ", A " + a + " in " + force, x.hatOf(0, 4), gone ? -9 : 10);
                }
            }
        }
        fallsWithoutFlying();
    }

    private static HatFields wornAtTheEdge(int kind, int a) {
        HatFields x = new HatFields();
        x.person(10, 0);
        x.hat(kind, a, 1, 10);
        x.puts(0, 0);
        return x;
    }

    /** A felt hat holds 4 and flies no step in 5: it falls, and the first who is there takes it. */
    private static void fallsWithoutFlying() {
        for (int force = 4; force <= 5; force++) {
            HatFields x = Check.told("person 7 speed 0;person 7 speed 0;felt 0 worth 5 of 1;");
            x.wind(0, 0, force);
            x.hours(1);
            Check.due("felt in " + force, x.hatOf(0, 3), force == 4 ? 1 : 0);
        }
    }

    private static void blownOffWhereOneStands() {
        for (int place = 0; place < 25; place++) {
            HatFields x = new HatFields();
            x.person(24 - place, 0);
            x.person(place, 0);
            x.hat(0, 0, 1, place);
            x.puts(0, 1);
            x.wind(0, 2, 4);
            x.hours(1);
            int lies = place < 20 ? place + 5 : -9;
            Check.due("blown off in " + place, x.hatOf(0, 4), lies);
            Check.due("who wears it then", x.hatOf(0, 3), lies == 24 - place ? 0 : -9);
        }
    }

    // ---- behind the last PLACE of THE PLAIN it is gone

    private static void fliesFromEveryPlace() {
        int[] columns = {0, 1, 0, -1};
        int[] rows = {-1, 0, 1, 0};
        for (int place = 0; place < 25; place++) {
            for (int direction = 0; direction < 4; direction++) {
                for (int force = 0; force < 10; force++) {
                    // Feathered: 0, 2, 4, 6 or 8 steps; a hat: 0 to 3; straw: 4 at most.
                    flies(0, place, direction, force, columns[direction] * (force / 3), rows[direction] * (force / 3));
                    int straw = force == 0 ? 0 : force / 3 + 1;
                    flies(2, place, direction, force, columns[direction] * straw, rows[direction] * straw);
                    flies(4, place, direction, force, 2 * columns[direction] * straw, 2 * rows[direction] * straw);
                }
            }
        }
    }

    private static void flies(int kind, int place, int direction, int force, int right, int down) {
        HatFields x = new HatFields();
        x.hat(kind, 0, 1, place);
        x.wind(0, direction, force);
        x.hours(1);
        int column = place % 5 + right;
        int row = place / 5 + down;
        boolean gone = column < 0 || column > 4 || row < 0 || row > 4;
        String what = "kind " + kind + " from " + place + " in " + direction + " " + force;
        Check.due(what, x.hatOf(0, 4), gone ? -9 : 5 * row + column);
        Check.due(what + ": many(6)", x.many(6), gone ? 1 : 0);
    }

    private static void goneForGood() {
        HatFields x = Check.told("person 20 speed 3;hat 0 worth 9 on 24;wind 0 east 3;wind 1 west 9;");
        x.hours(48);
        Check.due("a gone hat doesn't fly back", x.hatOf(0, 4), -9);
        Check.due("nobody runs for it", x.personOf(0, 0), 20);
        Check.due("nobody wears it", x.hatOf(0, 3), -9);
        x.found(0, 20);
        x.hours(1);
        Check.due("until it is found", x.hatOf(0, 3), 0);
    }

    private static void allFlyBeforeOneRuns() {
        HatFields x = Check.told("person 12 speed 0;person 13 speed 0;hat 0 worth 1 of 1;hat 0 worth 2 on 13;wind 0 west 4;");
        x.hours(1);
        Check.due("both flew to who stands there", x.personOf(0, 3), 3);
        x = Check.told("person 12 speed 0;hat 0 worth 1 on 11;tied 9 worth 2 of 0;hat 0 worth 4 of 0;wind 0 east 4;");
        x.hours(1);
        Check.due("what is put on in this hour is not blown off in it", x.personOf(0, 3), 3);
        Check.due("what was worn flew", x.hatOf(2, 4), 13);
    }

    // ---- SPEED steps at most

    private static void runsSoFar() {
        for (int from = 0; from < 25; from++) {
            for (int to = 0; to < 25; to++) {
                int apart = Math.abs(from % 5 - to % 5) + Math.abs(from / 5 - to / 5);
                for (int speed = 0; speed < 4; speed++) {
                    HatFields x = new HatFields();
                    x.person(from, speed);
                    x.hat(0, 0, 1, to);
                    x.hours(1);
                    String what = "from " + from + " to " + to + " with " + speed;
                    Check.due(what, x.personOf(0, 0), runner(from, to, speed));
                    Check.due(what + ": who wears it", x.hatOf(0, 3), apart <= speed ? 0 : -9);
                }
            }
        }
    }

    /** Step by step: a column as long as there are such, else a row. */
    private static int runner(int from, int to, int speed) {
        int at = from;
        for (int step = 0; step < speed && at != to; step++) {
            if (at % 5 != to % 5) {
                at += at % 5 < to % 5 ? 1 : -1;
            } else {
                at += at < to ? 5 : -5;
            }
        }
        return at;
    }

    private static void columnsFirst() {
        int[][] due = {{0, 24, 3, 3}, {24, 0, 3, 21}, {4, 20, 3, 1}, {20, 4, 3, 23}, {2, 13, 2, 8}, {12, 6, 1, 11}};
        for (int[] d : due) {
            HatFields x = new HatFields();
            x.person(d[0], d[2]);
            x.hat(0, 0, 1, d[1]);
            x.hours(1);
            Check.due("columns first, then rows", x.personOf(0, 0), d[3]);
        }
    }

    /** Rows and columns apart, together; of several the least. */
    private static void nearestOfTwo() {
        for (int first = 0; first < 25; first++) {
            for (int second = 0; second < 25; second++) {
                int toFirst = Math.abs(first % 5 - 2) + Math.abs(first / 5 - 2);
                int toSecond = Math.abs(second % 5 - 2) + Math.abs(second / 5 - 2);
                HatFields x = new HatFields();
                x.person(12, 1);
                x.hat(0, 0, 1, first);
                x.hat(0, 0, 1, second);
                x.hours(1);
                int due = runner(12, toSecond < toFirst ? second : first, 1);
                Check.due("the nearest of " + first + " and " + second, x.personOf(0, 0), due);
            }
        }
        HatFields x = Check.told("person 0 speed 1;hat 0 worth 1 on 24;");
        x.hours(1);
        Check.due("eight steps away is near enough", x.personOf(0, 0), 1);
        x = Check.told("person 12 speed 1;hat 0 worth 1 of 0;hat 0 worth 1 on 22;hat 0 worth 1 on 14;");
        x.hours(1);
        Check.due("of those that lie", x.personOf(0, 0), 17);
    }

    private static void putsOnAllThatLieThere() {
        HatFields x = Check.told("person 11 speed 1;person 12 speed 0;hat 0 worth 1 of 1;hat 0 worth 2 on 12;felt 0 worth 4 on 12;"
            + "hat 0 worth 8 on 13;straw 0 worth 16 on 12;hat 0 worth 32 on 11;");
        x.moves(0, 7);
        x.hours(1);
        Check.due("with all others that lie there", x.personOf(0, 3), 22);
        Check.due("not what another wears there", x.personOf(1, 3), 1);
        Check.due("not what lies elsewhere", x.hatOf(3, 3), -9);
        x = Check.told("person 10 speed 3;hat 0 worth 1 on 12;hat 0 worth 2 on 11;hat 0 worth 4 on 11;");
        x.hours(1);
        Check.due("two that lie in one place", x.personOf(0, 3), 6);
        Check.due("no further, though there are steps", x.personOf(0, 0), 11);
        x = Check.told("person 12;" + "hat 0 worth 1 on 12;".repeat(6));
        x.hours(1);
        Check.due("six at once", x.personOf(0, 3), 63);
    }

    private static void nothingToRunFor() {
        Twins.Made noHats = () -> Check.told("person 0 speed 3;person 24 speed 3;");
        Twins.justThisChanges("without HATS nobody runs", noHats, x -> x.hours(1), 1, "many(2)=1");
        Twins.Made allWorn = () -> Check.told("person 0 speed 3;person 24 speed 3;hat 0 worth 1 of 0;");
        Twins.justThisChanges("with none that lies nobody runs", allWorn, x -> x.hours(48), 48, "many(2)=48");
        Twins.Made noPeople = () -> Check.told("hat 0 worth 1 on 3;");
        Twins.justThisChanges("without PEOPLE none is put on", noPeople, x -> x.hours(48), 48, "many(2)=48");
        HatFields x = Check.told("person 0 speed 3;hat 0 worth 1 on 9;wind 0 east 3;");
        x.hours(1);
        Check.due("gone before one runs", x.personOf(0, 0), 0);
    }

    private static void oneByOne() {
        for (int hats = 0; hats <= 5; hats++) {
            HatFields x = Check.told("person 12 speed 0;person 12;person 11 speed 3;" + "hat 0 worth 1 on 12;".repeat(hats));
            x.hours(1);
            Check.due("the first takes all", x.personOf(0, 3), (1 << hats) - 1);
            Check.due("the second none", x.personOf(1, 3), 0);
            Check.due("the third doesn't run", x.personOf(2, 0), 11);
        }
        HatFields x = Check.told("person 0;person 1;person 2;person 3;person 4;hat 0 worth 1 on 20;hat 0 worth 1 on 9;");
        x.hours(1);
        int[] due = {5, 2, 3, 4, 9};
        for (int p = 0; p < 5; p++) {
            Check.due("person " + p, x.personOf(p, 0), due[p]);
        }
    }

    private static void noWindFromElsewhere() {
        HatFields x = Check.told("hat 0 worth 1 on 12;wind 1 east 9;now 0;");
        x.hours(1);
        Check.due("the wind of the hour that goes", x.hatOf(0, 4), 12);
        x.hours(1);
        Check.due("not the one behind it", x.hatOf(0, 4), -9);
        x = Check.told("hat 0 worth 1 on 10;wind 23 east 3;wind 0 south 3;now 23;");
        x.hours(2);
        Check.due("HOUR 0 comes behind HOUR 23", x.hatOf(0, 4), 16);
        Check.due("NOW goes on", x.many(2), 25);
    }
}
