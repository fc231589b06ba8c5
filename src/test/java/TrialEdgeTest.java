/** The edges of promises 19 to 29: lengths of trials, the end of NOW, ties, nothing to choose from, refusals, z. */
public final class TrialEdgeTest {
    private static final int BAD = HatFields.BAD, NONE = HatFields.NONE, STATE = HatFields.STATE;
    private static final int LEAST = Integer.MIN_VALUE, MOST = Integer.MAX_VALUE;

    public static void main(String[] args) {
        trialsChangeNothing();
        trialsRefused();
        trialsAsHoursGo();
        trialsAsFarAsThereAreSuch();
        lost();
        lostRefused();
        master();
        masterRefused();
        plansRefused();
        wish();
        wishInTheHourOfNow();
        start();
        tie();
        calm();
        seed();
        draw();
        Check.finish();
    }

    // ---- 19 to 21: owns, where, wears

    private static void trialsChangeNothing() {
        for (int n : new int[] {0, 1, 48}) {
            int owned = n == 0 ? 40 : 47;
            Twins.nothingChanges("19: owns(0, " + n + ")", Twins::rich, x -> x.owns(0, n), n == 48 ? 0 : owned);
            Twins.nothingChanges("20: where(4, " + n + ")", Twins::rich, x -> x.where(4, n), n == 0 ? 12 : n == 1 ? 13 : -9);
            Twins.nothingChanges("21: wears(4, " + n + ")", Twins::rich, x -> x.wears(4, n), n == 1 ? 0 : -9);
        }
        Twins.nothingChanges("20: where(0, 1) of a gone one", Twins::rich, x -> x.where(0, 1), -9);
        Twins.nothingChanges("21: wears(0, 1) of a gone one", Twins::rich, x -> x.wears(0, 1), -9);
        Twins.nothingChanges("22: lost(0)", Twins::rich, x -> x.lost(0), 0);
        // In HOUR 23 of the one day it is blown from 13 to 10, in that of the next from 11 away.
        Twins.nothingChanges("22: lost(4)", Twins::rich, x -> x.lost(4), 43);
        Twins.nothingChanges("23: master(1)", Twins::rich, x -> x.master(1), 0);
        // East 3 takes the straw hat to 8, and no other wind takes one to where person 2 comes first.
        Twins.nothingChanges("24: wish(2, 1)", Twins::rich, x -> x.wish(2, 1), 13);
        Twins.nothingChanges("25: start(2, 1)", Twins::rich, x -> x.start(2, 1), 3);
        // Hat 3, tied, would fly one step to 7, from where person 0 has it in the second hour.
        Twins.nothingChanges("26: tie(0, 12)", Twins::rich, x -> x.tie(0, 12), 3);
        Twins.nothingChanges("27: calm()", Twins::rich, x -> x.calm(), 2);
    }

    private static void trialsRefused() {
        int[][] people = {{-1, 0}, {3, 0}, {LEAST, 0}, {MOST, 0}, {0, -1}, {0, 49}, {0, LEAST}, {0, MOST}};
        for (int[] w : people) {
            Twins.nothingChanges("19: owns(" + w[0] + ", " + w[1] + ")", Twins::rich, x -> x.owns(w[0], w[1]), BAD);
        }
        int[][] hats = {{-1, 0}, {5, 0}, {LEAST, 0}, {MOST, 0}, {0, -1}, {0, 49}, {0, LEAST}, {0, MOST}};
        for (int[] w : hats) {
            Twins.nothingChanges("20: where(" + w[0] + ", " + w[1] + ")", Twins::rich, x -> x.where(w[0], w[1]), BAD);
            Twins.nothingChanges("21: wears(" + w[0] + ", " + w[1] + ")", Twins::rich, x -> x.wears(w[0], w[1]), BAD);
        }
        HatFields x = new HatFields();
        Check.due("19: no PEOPLE", x.owns(0, 0), BAD);
        Check.due("20: no HATS", x.where(0, 0), BAD);
        Check.due("21: no HATS", x.wears(0, 0), BAD);
        x = Twins.full();
        Check.due("19: the last PERSON", x.owns(4, 0), 0);
        Check.due("20: the last HAT", x.where(5, 0), 24);
        Check.due("21: the last HAT", x.wears(5, 0), -9);
        Check.due("19: one too many", x.owns(5, 0), BAD);
        Check.due("20: one too many", x.where(6, 0), BAD);
        Check.due("21: one too many", x.wears(6, 0), BAD);
    }

    /** A trial of n hours is as n hours that go, for every n. */
    private static void trialsAsHoursGo() {
        for (int n = 0; n <= 48; n++) {
            HatFields tried = Twins.rich();
            HatFields gone = Twins.rich();
            gone.hours(n);
            for (int p = 0; p < 3; p++) {
                Check.due("19: owns(" + p + ", " + n + ")", tried.owns(p, n), gone.personOf(p, 2));
            }
            for (int h = 0; h < 5; h++) {
                Check.due("20: where(" + h + ", " + n + ")", tried.where(h, n), gone.hatOf(h, 4));
                Check.due("21: wears(" + h + ", " + n + ")", tried.wears(h, n), gone.hatOf(h, 3));
            }
        }
    }

    private static void trialsAsFarAsThereAreSuch() {
        for (int left = 0; left <= 8; left++) {
            HatFields x = Check.told("person 0 speed 1;hat 0 worth 9 on 24;");
            x.clock(96 - left);
            int due = left == 8 ? 9 : 0;
            Check.due("19: with " + left + " hours left", x.owns(0, 48), due);
            Check.due("21: with " + left + " hours left", x.wears(0, 48), left == 8 ? 0 : -9);
            Check.due("20: with " + left + " hours left", x.where(0, 48), 24);
            Check.due("25: start with " + left + " hours left", x.start(0, 12), left == 0 ? 0 : startDue(left));
        }
        Twins.nothingChanges("19: owns(0, 48) at 96", Twins::late, x -> x.owns(0, 48), 40);
        Twins.nothingChanges("20: where(4, 48) at 96", Twins::late, x -> x.where(4, 48), 12);
        Twins.nothingChanges("21: wears(1, 48) at 96", Twins::late, x -> x.wears(1, 48), 0);
    }

    /** The least place from which 24 can be reached in so many steps. */
    private static int startDue(int steps) {
        for (int place = 0; place < 25; place++) {
            if (4 - place % 5 + 4 - place / 5 <= steps) {
                return place;
            }
        }
        return 24;
    }

    // ---- 22: lost

    private static void lost() {
        HatFields x = Check.told("hat 0 worth 9 on 3;wind 23 east 3;");
        Check.due("22: in the 48th hour", x.lost(0), 48);
        x = Check.told("hat 0 worth 9 on 2;wind 0 east 3;");
        Check.due("22: not in the 49th", x.lost(0), NONE);
        x.hours(1);
        Check.due("22: an hour later it is the 48th", x.lost(0), 48);
        x = Check.told("hat 0 worth 9 on 4;wind 0 east 3;");
        Check.due("22: in the first hour", x.lost(0), 1);
        x.hours(1);
        Check.due("22: it is gone now", x.lost(0), 0);
        x.clock(96);
        Check.due("22: it is gone now, at the end", x.lost(0), 0);
        for (int now = 0; now <= 96; now++) {
            HatFields y = Check.told("hat 0 worth 9 on 4;wind 23 east 3;now " + now + ";");
            int hours = 24 - now % 24;
            Check.due("22: at NOW " + now, y.lost(0), now == 96 ? NONE : hours);
        }
        x = Check.told("hat 0 worth 9 on 4;wind 0 east 3;now 73;");
        Check.due("22: the hour behind 96 doesn't go", x.lost(0), NONE);
        x.clock(72);
        Check.due("22: the hour 72 goes", x.lost(0), 1);
        x = Check.told("person 12;tied 9 worth 9 of 0;wind 0 east 9;");
        Check.due("22: never", x.lost(0), NONE);
    }

    private static void lostRefused() {
        for (int hat : new int[] {-1, 5, 6, LEAST, MOST}) {
            Twins.nothingChanges("22: lost(" + hat + ")", Twins::rich, x -> x.lost(hat), BAD);
        }
        Check.due("22: no HATS", new HatFields().lost(0), BAD);
        Twins.nothingChanges("22: NONE", Twins::late, x -> x.lost(1), NONE);
    }

    // ---- 23: master

    private static void master() {
        for (int richest = 0; richest < 5; richest++) {
            HatFields x = new HatFields();
            for (int p = 0; p < 5; p++) {
                x.person(p, 0);
                x.hat(1, 9, p >= richest ? 7 : 6, p);
                x.puts(p, p);
            }
            Check.due("23: of several the least: " + richest, x.master(0), richest);
            Check.due("23: behind 48", x.master(48), richest);
        }
        HatFields x = new HatFields();
        x.person(3, 3);
        Check.due("23: one who owns nothing", x.master(0), 0);
        x.person(3, 3);
        Check.due("23: all own nothing", x.master(48), 0);
        x = Check.told("person 0 speed 0;person 4 speed 1;hat 0 worth 9 on 14;tied 9 worth 8 of 0;");
        int[] due = {0, 0, 1};
        for (int n = 0; n < 3; n++) {
            Check.due("23: master(" + n + ")", x.master(n), due[n]);
        }
        x.clock(95);
        Check.due("23: one hour left", x.master(48), 0);
        x.clock(94);
        Check.due("23: two hours left", x.master(48), 1);
    }

    private static void masterRefused() {
        for (int n : new int[] {-1, 49, LEAST, MOST}) {
            Twins.nothingChanges("23: master(" + n + ")", Twins::rich, x -> x.master(n), BAD);
            Twins.nothingChanges("23: BAD ahead of NONE", HatFields::new, x -> x.master(n), BAD);
        }
        for (int n : new int[] {0, 48}) {
            Twins.nothingChanges("23: no PEOPLE", () -> Check.told("hat 0 worth 1 on 3;"), x -> x.master(n), NONE);
        }
    }

    // ---- 24 to 26: wish, start, tie

    private static void plansRefused() {
        int[][] wrong = {{-1, 1}, {3, 1}, {LEAST, 1}, {MOST, 1}, {0, 0}, {0, 13}, {0, -1}, {0, LEAST}, {0, MOST}};
        for (int[] w : wrong) {
            String numbers = "(" + w[0] + ", " + w[1] + ")";
            Twins.nothingChanges("24: wish" + numbers, Twins::rich, x -> x.wish(w[0], w[1]), BAD);
            Twins.nothingChanges("24: BAD ahead of STATE, wish" + numbers, Twins::late, x -> x.wish(w[0], w[1]), BAD);
            Twins.nothingChanges("25: start" + numbers, Twins::rich, x -> x.start(w[0], w[1]), BAD);
            Twins.nothingChanges("26: tie" + numbers, Twins::rich, x -> x.tie(w[0], w[1]), BAD);
            Twins.Made noHats = () -> Check.told("person 1;person 2;person 3;");
            Twins.nothingChanges("26: BAD ahead of NONE, tie" + numbers, noHats, x -> x.tie(w[0], w[1]), BAD);
        }
        Twins.nothingChanges("26: no HATS", () -> Check.told("person 1;now 9;"), x -> x.tie(0, 1), NONE);
        Twins.nothingChanges("26: no HATS, at 96", () -> Check.told("person 1;now 96;"), x -> x.tie(0, 12), NONE);
        Twins.nothingChanges("24: NOW is 96", Twins::late, x -> x.wish(0, 1), STATE);
        Twins.nothingChanges("24: NOW is 96", Twins::late, x -> x.wish(2, 12), STATE);
        Twins.nothingChanges("25: at 96 all are as good: the least", Twins::late, x -> x.start(0, 1), 0);
        Twins.nothingChanges("26: at 96 all are as good: the least", Twins::late, x -> x.tie(0, 1), 0);
        HatFields x = new HatFields();
        Check.due("24: no PEOPLE", x.wish(0, 1), BAD);
        Check.due("25: no PEOPLE", x.start(0, 1), BAD);
        Check.due("26: no PEOPLE, ahead of no HATS", x.tie(0, 1), BAD);
        x = Check.told("person 3;");
        Check.due("24: no HATS: the least", x.wish(0, 12), 0);
        Check.due("25: no HATS: the least", x.start(0, 12), 0);
    }

    private static void wish() {
        // One without steps, and a hat so many places off: the least force that brings it there.
        int[] forces = {0, 3, 6, 9};
        for (int steps = 0; steps <= 3; steps++) {
            wished(20, 20 - 5 * steps, steps == 0 ? 0 : 20 + forces[steps]);
            wished(0, 5 * steps, forces[steps]);
            wished(4, 4 - steps, steps == 0 ? 0 : 10 + forces[steps]);
            wished(0, steps, steps == 0 ? 0 : 30 + forces[steps]);
        }
        wished(4, 0, 0);
        // A straw hat comes one step in FORCE 1 already.
        int[] beside = {17, 11, 7, 13};
        for (int direction = 0; direction < 4; direction++) {
            HatFields x = new HatFields();
            x.person(12, 0);
            x.hat(2, 0, 5, beside[direction]);
            Check.due("24: from beside, " + direction, x.wish(0, 1), 10 * direction + 1);
        }
        // Twelve hours, and thirteen: the hat comes with the last of them.
        for (int n = 11; n <= 12; n++) {
            HatFields x = Check.told("person 20 speed 0;hat 0 worth 3 on 10;wind 11 south 3;");
            Check.due("24: wish(0, " + n + ")", x.wish(0, n), n == 12 ? 23 : 26);
        }
        HatFields x = Check.told("person 12 speed 0;hat 0 worth 3 of 0;");
        Check.due("24: all winds up to 3 leave it: the least", x.wish(0, 12), 0);
        x = Check.told("person 12 speed 0;hat 0 worth 0 on 11;");
        Check.due("24: a hat of worth 0 is no gain: the least", x.wish(0, 1), 0);
        x = Check.told("person 12 speed 3;person 10 speed 3;hat 0 worth 3 of 1;");
        Check.due("24: to take another's hat", x.wish(0, 1), 4);
    }

    private static void wished(int stands, int lies, int due) {
        HatFields x = new HatFields();
        x.person(stands, 0);
        x.hat(0, 0, 5, lies);
        Check.due("24: from " + lies + " to " + stands, x.wish(0, 1), due);
        x.wind(0, 3, 9);
        Check.due("24: in place of its own, from " + lies + " to " + stands, x.wish(0, 1), due);
        Check.due("24: its own stays", x.windOf(0), 39);
    }

    private static void wishInTheHourOfNow() {
        for (int now = 0; now < 96; now++) {
            HatFields x = Check.told("person 13 speed 0;hat 0 worth 3 on 12;now " + now + ";");
            Check.due("24: at NOW " + now, x.wish(0, 1), 13);
            x.wind((now + 1) % 24, 1, 9);
            x.wind(now % 24, 2, 9);
            // East 9 comes next, if there is one: from 10 it takes the hat to 13, from 13 away.
            Check.due("24: other hours blow as they are, at NOW " + now, x.wish(0, 2), now == 95 ? 13 : 36);
        }
        HatFields x = Check.told("person 14 speed 0;hat 0 worth 3 on 12;wind 1 east 3;");
        Check.due("24: this hour alone is another", x.wish(0, 2), 13);
        x.clock(95);
        x.wind(0, 1, 3);
        Check.due("24: as far as there are hours", x.wish(0, 2), 16);
        x.clock(23);
        Check.due("24: HOUR 0 comes behind HOUR 23", x.wish(0, 2), 13);
    }

    private static void start() {
        for (int lies = 0; lies < 25; lies++) {
            HatFields x = new HatFields();
            x.person(12, 0);
            x.hat(0, 0, 5, lies);
            Check.due("25: where it lies, " + lies, x.start(0, 1), lies);
            x.puts(0, 0);
            Check.due("25: what one wears goes along; of several the least", x.start(0, 12), lies == 12 ? 0 : lies);
        }
        HatFields x = Check.told("person 12 speed 0;hat 0 worth 0 on 24;");
        Check.due("25: a hat of worth 0 is no gain: the least", x.start(0, 12), 0);
        x = Check.told("person 12 speed 0;hat 0 worth 5 on 24;hat 0 worth 5 on 7;hat 0 worth 4 on 0;");
        Check.due("25: of several the least", x.start(0, 1), 7);
        x = Check.told("person 12 speed 1;person 0 speed 1;hat 0 worth 5 on 1;hat 0 worth 6 on 4;");
        Check.due("25: another takes one of them", x.start(1, 1), 3);
        for (int n = 11; n <= 12; n++) {
            x = Check.told("person 12 speed 0;hat 0 worth 5 on 24;wind 11 north 9;");
            Check.due("25: start(0, " + n + ")", x.start(0, n), n == 12 ? 9 : 24);
            x.wind(0, 0, 9);
            x.wind(11, 2, 4);
            Check.due("25: blown on in the twelfth hour", x.start(0, n), n == 12 ? 14 : 9);
        }
    }

    private static void tie() {
        for (int last = 0; last < 6; last++) {
            HatFields x = new HatFields();
            x.person(12, 0);
            for (int h = 0; h <= last; h++) {
                x.hat(0, 0, 5 + h, 12);
                x.puts(h, 0);
            }
            Check.due("26: no wind: the least", x.tie(0, 12), 0);
            x.wind(0, 0, 9);
            Check.due("26: the dearest of " + (last + 1), x.tie(0, 1), last);
        }
        HatFields x = Check.told("person 12 speed 0;hat 0 worth 5 of 0;hat 0 worth 6 of 0;hat 0 worth 6 of 0;wind 0 east 9;");
        Check.due("26: of several the least", x.tie(0, 12), 1);
        // Pinned with A 9 holds 7, tied with A 0 to 3 holds 6 or 8: in 9 only a tied one with A 4 or more holds.
        x = Check.told("person 12 speed 0;pinned 9 worth 5 of 0;tied 3 worth 6 of 0;wind 0 east 9;");
        Check.due("26: a tied one with A 9 holds in 9", x.tie(0, 1), 1);
        x = Check.told("person 12 speed 0;tied 4 worth 5 of 0;pinned 9 worth 1 of 0;wind 0 east 9;");
        Check.due("26: A 4 is enough for the other one", x.tie(0, 1), 1);
        x = Check.told("person 12 speed 0;hat 0 worth 5 of 0;straw 0 worth 9 on 10;wind 0 east 3;");
        Check.due("26: a straw one flies two steps; tied it would fly one", x.tie(0, 1), 0);
        x = Check.told("person 12 speed 0;hat 0 worth 5 of 0;straw 0 worth 9 on 11;wind 0 east 3;");
        Check.due("26: tied it comes just here", x.tie(0, 1), 1);
        for (int n = 11; n <= 12; n++) {
            x = Check.told("person 12 speed 0;hat 0 worth 5 of 0;hat 0 worth 9 of 0;wind 11 east 9;");
            Check.due("26: tie(0, " + n + ")", x.tie(0, n), n == 12 ? 1 : 0);
        }
        x = Check.told("person 12 speed 0;hat 0 worth 5 of 0;hat 0 worth 9 of 0;wind 23 east 9;now 95;");
        Check.due("26: the last hour", x.tie(0, 12), 1);
        Twins.nothingChanges("26: a gone one can be tied, and is no gain", Twins::rich, y -> y.tie(2, 1), 0);
    }

    // ---- 27: calm

    private static void calm() {
        Check.due("27: no HATS", new HatFields().calm(), 0);
        Check.due("27: no HATS, at 96", Check.told("person 3;now 96;").calm(), 0);
        Check.due("27: all are worn", Check.told("person 3;hat 0 worth 1 of 0;").calm(), 0);
        Check.due("27: all six are worn", Check.told("person 3;" + "hat 0 worth 1 of 0;".repeat(6)).calm(), 0);
        Check.due("27: the last of six lies there", Check.told("person 3;" + "hat 0 worth 1 of 0;".repeat(5)
            + "hat 0 worth 1 on 3;").calm(), 1);
        Check.due("27: one is there", Check.told("person 3 speed 0;hat 0 worth 1 on 3;").calm(), 1);
        Check.due("27: one is beside, without steps", Check.told("person 3 speed 0;hat 0 worth 1 on 4;").calm(), NONE);
        Check.due("27: nobody", Check.told("hat 0 worth 1 on 4;").calm(), NONE);
        for (int lies = 0; lies < 25; lies++) {
            for (int speed = 1; speed < 4; speed++) {
                HatFields x = new HatFields();
                x.person(0, speed);
                x.hat(0, 0, 1, lies);
                x.clock(96);
                int steps = lies % 5 + lies / 5;
                Check.due("27: from 0 to " + lies, x.calm(), Math.max(1, (steps + speed - 1) / speed));
            }
        }
        HatFields x = Check.told("person 0 speed 1;hat 0 worth 1 on 24;straw 0 worth 1 of 0;");
        for (int hour = 0; hour < 24; hour++) {
            x.wind(hour, hour % 4, 9);
        }
        Check.due("27: all HOURS without WIND", x.calm(), 8);
        Check.due("27: the winds stay", x.windOf(23), 39);
        x = Check.told("hat 0 worth 1 on 4;hat 0 worth 1 on 0;wind 0 east 3;");
        x.hours(1);
        Check.due("27: one that lies, one that is gone", x.calm(), NONE);
        x = Check.told("hat 0 worth 1 on 4;wind 0 east 3;");
        x.hours(1);
        Check.due("27: all are gone", x.calm(), 0);
        Twins.nothingChanges("27: as if NOW had no end", Twins::late, y -> y.calm(), 2);
        Twins.Made never = () -> Check.told("person 3 speed 0;hat 0 worth 1 on 4;wind 0 west 3;now 93;");
        Twins.nothingChanges("27: NONE", never, y -> y.calm(), NONE);
    }

    // ---- 28 and 29: seed, draw

    private static void seed() {
        HatFields x = new HatFields();
        int was = 1;
        for (int v : new int[] {0, -1, LEAST, MOST, 1, 5}) {
            Check.due("28: seed(" + v + ")", x.seed(v), was);
            was = v;
        }
        Twins.justThisChanges("28: seed(-4)", Twins::rich, y -> y.seed(-4), 77, "z=-4");
        Twins.nothingChanges("28: seed(77)", Twins::rich, y -> y.seed(77), 77);
    }

    private static void draw() {
        // By hand: z wraps as an int; its sign is a bit as any other (>>>).
        int[] seeds = {0, 1, -1, LEAST, MOST, 77, 123456789};
        for (int seed : seeds) {
            long z = (seed * 1103515245L + 12345L) & 0xffffffffL;
            int due = (int) (10 * ((z >> 16) % 4) + (z >> 20) % 10);
            HatFields x = new HatFields();
            x.seed(seed);
            Check.due("29: draw(7) by " + seed, x.draw(7), due);
            Check.due("29: WIND", x.windOf(7), due);
            Check.due("29: z", x.seed(0), (int) z);
        }
        HatFields first = new HatFields();
        Check.due("29: z is 1 at first", first.draw(0), 22);
        for (int hour = 0; hour < 24; hour++) {
            HatFields x = new HatFields();
            Check.due("29: draw(" + hour + ")", x.draw(hour), 22);
            for (int h = 0; h < 24; h++) {
                Check.due("29: windOf(" + h + ")", x.windOf(h), h == hour ? 22 : 0);
            }
        }
        for (int hour : new int[] {-1, 24, LEAST, MOST}) {
            Twins.nothingChanges("29: draw(" + hour + ")", Twins::rich, x -> x.draw(hour), BAD);
        }
        long z = (77 * 1103515245L + 12345L) & 0xffffffffL;
        int due = (int) (10 * ((z >> 16) % 4) + (z >> 20) % 10);
        Twins.justThisChanges("29: draw(7)", Twins::rich, x -> x.draw(7), due, "z=" + (int) z, "windOf(7)=" + due);
        negativeZ();
    }

    private static void negativeZ() {
        int negative = 0;
        HatFields x = new HatFields();
        for (int i = 0; i < 160; i++) {
            int z = x.seed(0);
            x.seed(z);
            int next = z * 1103515245 + 12345;
            negative += next < 0 ? 1 : 0;
            long whole = next & 0xffffffffL;
            Check.due("29: draw after " + z, x.draw(i % 24), 10 * (whole / 65536 % 4) + whole / 1048576 % 10);
        }
        Check.due("29: some of them were below 0", negative > 50 ? 1 : 0, 1);
    }
}
