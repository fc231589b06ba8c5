/** Promises 17 and 18, and how an hour goes. */
public final class HoursTest {
    public static void main(String[] args) {
        counting();
        clock();
        blownOff();
        flyingAndGone();
        windsByHours();
        running();
        nearest();
        byNumbers();
        Check.finish();
    }

    private static void counting() {
        HatFields x = new HatFields();
        Check.due("17: hours(0)", x.hours(0), 0);
        Check.due("17: hours(1)", x.hours(1), 1);
        Check.due("17: hours(-1)", x.hours(-1), HatFields.BAD);
        Check.due("17: hours(49)", x.hours(49), HatFields.BAD);
        Check.due("17: NOW", x.many(2), 1);
        Check.due("17: hours(48)", x.hours(48), 49);
        Check.due("17: hours(46)", x.hours(46), 95);
        Check.due("17: hours(48) at the end", x.hours(48), 96);
        Check.due("17: hours(1) behind it", x.hours(1), 96);
    }

    private static void clock() {
        HatFields x = Check.told("person 0 speed 3;hat 0 worth 1 on 2;");
        Check.due("18: clock(96)", x.clock(96), 0);
        Check.due("18: clock(97)", x.clock(97), HatFields.BAD);
        Check.due("18: clock(-1)", x.clock(-1), HatFields.BAD);
        Check.due("18: no hour goes behind 96", x.hours(5), 96);
        Check.due("18: the hat lies", x.hatOf(0, 3), -9);
        Check.due("18: clock(0)", x.clock(0), 96);
        Check.due("18: clock(5)", x.clock(5), 0);
        Check.due("18: NOW", x.many(2), 5);
    }

    private static void blownOff() {
        // A person of speed 0 in the middle; force by force until the hat flies off the head.
        for (int kind = 0; kind < 6; kind++) {
            int[] holds = {3, 5, 1, 10, 0, 4};
            for (int force = 0; force < 10; force++) {
                HatFields x = new HatFields();
                x.person(12, 0);
                x.hat(kind, kind == 4 ? 5 : 4, 1, 12);
                x.puts(0, 0);
                x.wind(0, 1, force);
                int flies = x.hatOf(0, 6);
                x.hours(1);
                // One that falls and flies no step is put on again in the same hour.
                boolean off = force > holds[kind] && flies > 0;
                Check.due("kind " + kind + " in " + force + ": who wears it", x.hatOf(0, 3), off ? -9 : 0);
                int to = flies > 2 ? -9 : 12 + flies;
                Check.due("kind " + kind + " in " + force + ": where", x.hatOf(0, 4), off ? to : 12);
            }
        }
    }

    private static void flyingAndGone() {
        int[] one = {7, 13, 17, 11};
        int[] two = {2, 14, 22, 10};
        for (int direction = 0; direction < 4; direction++) {
            for (int steps = 0; steps <= 3; steps++) {
                HatFields x = new HatFields();
                x.hat(0, 0, 1, 12);
                x.wind(0, direction, 3 * steps);
                x.hours(1);
                int due = steps == 0 ? 12 : steps == 1 ? one[direction] : steps == 2 ? two[direction] : -9;
                Check.due("direction " + direction + ", " + steps + " steps", x.hatOf(0, 4), due);
                Check.due("many(6)", x.many(6), due == -9 ? 1 : 0);
            }
        }
        HatFields x = Check.told("hat 0 worth 1 on 4;hat 0 worth 1 on 5;wind 0 east 3;wind 1 west 3;");
        x.hours(1);
        Check.due("behind the last column is gone, not the next row", x.hatOf(0, 4), -9);
        Check.due("one that lies flies on", x.hatOf(1, 4), 6);
        x.hours(1);
        Check.due("gone stays gone", x.hatOf(0, 4), -9);
        Check.due("back by the next wind", x.hatOf(1, 4), 5);
    }

    private static void windsByHours() {
        HatFields x = Check.told("hat 0 worth 1 on 20;wind 0 north 3;wind 23 east 3;now 23;");
        x.hours(1);
        Check.due("the wind of HOUR 23", x.hatOf(0, 4), 21);
        x.hours(1);
        Check.due("HOUR 0 behind HOUR 23", x.hatOf(0, 4), 16);
        x.hours(24);
        Check.due("a day later", x.hatOf(0, 4), 12);
        Check.due("NOW", x.many(2), 49);
    }

    private static void running() {
        HatFields x = Check.told("person 0 speed 3;hat 0 worth 1 on 14;");
        x.hours(1);
        Check.due("columns first", x.personOf(0, 0), 3);
        x.hours(1);
        Check.due("then rows, and puts it on", x.personOf(0, 0), 14);
        Check.due("who wears it", x.hatOf(0, 3), 0);
        x = Check.told("person 24 speed 2;hat 0 worth 1 on 13;");
        x.hours(1);
        Check.due("one column, one row", x.personOf(0, 0), 18);
        Check.due("not there yet", x.hatOf(0, 3), -9);
        x.hours(1);
        Check.due("there", x.hatOf(0, 3), 0);
        x = Check.told("person 12 speed 0;hat 0 worth 1 on 12;hat 0 worth 2 on 12;hat 0 worth 4 on 11;");
        x.hours(1);
        Check.due("who is there puts all on", x.personOf(0, 3), 3);
        x.hours(3);
        Check.due("without speed nobody goes", x.personOf(0, 0), 12);
        x = Check.told("person 10 speed 3;hat 0 worth 1 on 11;hat 0 worth 2 on 13;");
        x.hours(1);
        Check.due("runs for the nearest alone", x.personOf(0, 3), 1);
        Check.due("and stops there", x.personOf(0, 0), 11);
        x = Check.told("person 10 speed 3;person 7;hat 0 worth 1 of 0;");
        x.hours(2);
        Check.due("with no hat that lies nobody runs", x.personOf(1, 0), 7);
        x = Check.told("person 10 speed 2;hat 0 worth 1 on 14;hat 0 worth 2 on 24;");
        x.moves(0, 10);
        x.hours(1);
        Check.due("passing by puts nothing on", x.personOf(0, 0), 12);
    }

    private static void nearest() {
        HatFields x = Check.told("person 12 speed 1;hat 0 worth 1 on 14;hat 0 worth 2 on 2;hat 0 worth 4 on 24;");
        x.hours(1);
        Check.due("of several the least", x.personOf(0, 0), 13);
        x = Check.told("person 12 speed 1;hat 0 worth 1 on 24;hat 0 worth 2 on 22;");
        x.hours(1);
        Check.due("rows and columns together", x.personOf(0, 0), 17);
        x = Check.told("person 12 speed 1;hat 0 worth 1 on 12;hat 0 worth 2 on 11;wind 0 east 9;");
        x.hours(1);
        Check.due("hats fly before people run", x.personOf(0, 0), 13);
        Check.due("one flew away", x.hatOf(0, 4), -9);
        Check.due("one flew by", x.hatOf(1, 4), 14);
    }

    private static void byNumbers() {
        HatFields x = Check.told("person 14 speed 2;person 12 speed 2;hat 0 worth 1 on 13;hat 0 worth 2 on 23;");
        x.hours(1);
        Check.due("the first takes the nearest", x.hatOf(0, 3), 0);
        Check.due("the second runs for the other", x.personOf(1, 0), 18);
    }
}
