/** Promises 19 to 29: what will be. */
public final class TrialTest {
    public static void main(String[] args) {
        ownsWhereWears();
        trialChangesNothing();
        lost();
        master();
        wish();
        start();
        tie();
        calm();
        drawn();
        Check.finish();
    }

    private static void ownsWhereWears() {
        HatFields x = Check.told("person 12 speed 1;person 24 speed 0;hat 0 worth 9 on 14;straw 0 worth 5 of 1;wind 2 east 5;");
        int[] owned = {0, 0, 9, 9};
        int[] hatAt = {14, 14, 14, 14};
        int[] wearer = {-9, -9, 0, -9};
        for (int n = 0; n < 3; n++) {
            Check.due("19: owns(0, " + n + ")", x.owns(0, n), owned[n]);
            Check.due("20: where(0, " + n + ")", x.where(0, n), hatAt[n]);
            Check.due("21: wears(0, " + n + ")", x.wears(0, n), wearer[n]);
            Check.due("21: wears(1, " + n + ")", x.wears(1, n), 1);
        }
        Check.due("20: blown away", x.where(0, 3), -9);
        Check.due("21: nobody", x.wears(0, 3), -9);
        Check.due("19: owns(0, 3)", x.owns(0, 3), 0);
        Check.due("19: owns(1, 3)", x.owns(1, 3), 0);
        Check.due("19: owns(0, 48)", x.owns(0, 48), 0);
        int[][] wrong = {{-1, 0}, {2, 0}, {0, -1}, {0, 49}};
        for (int[] w : wrong) {
            Check.due("19: wrong numbers", x.owns(w[0], w[1]), HatFields.BAD);
            Check.due("20: wrong numbers", x.where(w[0], w[1]), HatFields.BAD);
            Check.due("21: wrong numbers", x.wears(w[0], w[1]), HatFields.BAD);
        }
        x.clock(95);
        Check.due("20: as far as there are hours", x.where(0, 48), 14);
        Check.due("19: as far as there are hours", x.owns(0, 48), 0);
        x.clock(94);
        Check.due("19: two more hours", x.owns(0, 48), 9);
    }

    private static void trialChangesNothing() {
        HatFields x = Check.told("person 12 speed 1;hat 0 worth 9 on 14;hat 0 worth 5 of 0;wind 0 east 5;now 3;");
        x.owns(0, 48);
        x.lost(0);
        x.master(40);
        x.wish(0, 12);
        x.start(0, 12);
        x.tie(0, 12);
        x.calm();
        x.prove(20);
        x.judge();
        Check.due("NOW", x.many(2), 3);
        Check.due("PLACE", x.personOf(0, 0), 12);
        Check.due("OWNS", x.personOf(0, 2), 5);
        Check.due("hat 0", x.hatOf(0, 4), 14);
        Check.due("KIND", x.hatOf(1, 0), 0);
        Check.due("wind 0", x.windOf(0), 15);
        Check.due("wind 3", x.windOf(3), 0);
    }

    private static void lost() {
        HatFields x = Check.told("hat 0 worth 9 on 14;hat 0 worth 5 on 10;felt 0 worth 1 on 0;wind 0 east 3;");
        Check.due("22: lost(0)", x.lost(0), 1);
        Check.due("22: never in 48", x.lost(1), HatFields.NONE);
        Check.due("22: never", x.lost(2), HatFields.NONE);
        x.moves(0, 0);
        x.wind(1, 1, 3);
        x.wind(2, 1, 3);
        Check.due("22: a day later", x.lost(1), 26);
        Check.due("22: lost(3)", x.lost(3), HatFields.BAD);
        Check.due("22: lost(-1)", x.lost(-1), HatFields.BAD);
        x.hours(1);
        Check.due("22: gone now", x.lost(0), 0);
        x.clock(90);
        Check.due("22: the end comes first", x.lost(1), HatFields.NONE);
        Check.due("22: gone now, at the end", x.lost(0), 0);
        x = Check.told("hat 0 worth 9 on 4;wind 23 east 3;now 24;");
        Check.due("22: at the last hour of a day", x.lost(0), 24);
        x = Check.told("hat 0 worth 9 on 1;wind 23 east 6;");
        Check.due("22: in the 48th hour", x.lost(0), 48);
        x.clock(71);
        x.found(0, 1);
        Check.due("22: once more", x.lost(0), 25);
    }

    private static void master() {
        HatFields x = new HatFields();
        Check.due("23: nobody", x.master(0), HatFields.NONE);
        Check.due("23: BAD ahead of NONE", x.master(49), HatFields.BAD);
        Check.due("23: BAD", x.master(-1), HatFields.BAD);
        x = Check.told("person 0 speed 0;person 5 speed 1;person 20 speed 0;hat 0 worth 9 of 0;hat 0 worth 10 on 8;hat 0 worth 9 of 2;");
        Check.due("23: of several the least", x.master(0), 0);
        Check.due("23: master(2)", x.master(2), 0);
        Check.due("23: master(3)", x.master(3), 1);
        Check.due("23: master(48)", x.master(48), 1);
        x.clock(95);
        Check.due("23: at the end", x.master(48), 0);
    }

    private static void wish() {
        HatFields x = Check.told("person 12 speed 1;person 0 speed 0;straw 0 worth 9 on 14;hat 0 worth 5 on 2;");
        Check.due("24: the wind that brings the straw hat", x.wish(0, 1), 31);
        Check.due("24: without one it goes as well", x.wish(0, 12), 0);
        Check.due("24: for one who cannot run", x.wish(1, 1), 36);
        Check.due("24: n 0", x.wish(0, 0), HatFields.BAD);
        Check.due("24: n 13", x.wish(0, 13), HatFields.BAD);
        Check.due("24: person 2", x.wish(2, 1), HatFields.BAD);
        Check.due("24: person -1", x.wish(-1, 1), HatFields.BAD);
        x.wind(0, 1, 9);
        Check.due("24: in place of its own", x.wish(0, 2), 0);
        x.clock(95);
        x.wind(23, 1, 9);
        Check.due("24: one hour left", x.wish(0, 12), 31);
        x.clock(96);
        Check.due("24: NOW is 96", x.wish(0, 1), HatFields.STATE);
        Check.due("24: BAD ahead of STATE", x.wish(0, 0), HatFields.BAD);
        x = Check.told("person 12 speed 0;hat 0 worth 9 on 24;");
        Check.due("24: nothing can be won: the least", x.wish(0, 1), 0);
        x = Check.told("person 12 speed 0;hat 0 worth 9 on 2;");
        Check.due("24: from the north two steps", x.wish(0, 1), 26);
        x = Check.told("person 14 speed 0;hat 0 worth 9 on 11;");
        Check.due("24: force 9", x.wish(0, 1), 19);
    }

    private static void start() {
        HatFields x = Check.told("person 12 speed 1;hat 0 worth 9 on 14;hat 0 worth 5 on 24;");
        Check.due("25: in one hour the dearer", x.start(0, 1), 9);
        Check.due("25: in two hours too", x.start(0, 2), 4);
        Check.due("25: in three hours both", x.start(0, 3), 9);
        Check.due("25: n 0", x.start(0, 0), HatFields.BAD);
        Check.due("25: n 13", x.start(0, 13), HatFields.BAD);
        Check.due("25: person 1", x.start(1, 1), HatFields.BAD);
        Check.due("25: person -1", x.start(-1, 1), HatFields.BAD);
        x.clock(96);
        Check.due("25: no hour left: the least", x.start(0, 1), 0);
        x = Check.told("person 12 speed 0;person 24 speed 3;hat 0 worth 9 on 23;straw 0 worth 5 of 0;wind 0 north 2;");
        Check.due("25: one who doesn't run", x.start(0, 1), 23);
    }

    private static void tie() {
        HatFields x = Check.told("person 12 speed 0;hat 0 worth 9 of 0;straw 0 worth 20 of 0;felt 0 worth 20 of 0;");
        Check.due("26: no wind: the least", x.tie(0, 1), 0);
        x.wind(0, 1, 9);
        Check.due("26: the dearer one, of several the least", x.tie(0, 12), 1);
        x.wind(0, 1, 4);
        Check.due("26: felt holds by itself", x.tie(0, 12), 1);
        x.make(1, 3, 9);
        Check.due("26: a tied one holds by itself", x.tie(0, 12), 0);
        Check.due("26: n 0", x.tie(0, 0), HatFields.BAD);
        Check.due("26: n 13", x.tie(0, 13), HatFields.BAD);
        Check.due("26: person 1", x.tie(1, 1), HatFields.BAD);
        x.clock(96);
        Check.due("26: no hour left", x.tie(0, 12), 0);
        x = Check.told("person 12;");
        Check.due("26: no hats", x.tie(0, 1), HatFields.NONE);
        Check.due("26: BAD ahead of NONE", x.tie(1, 1), HatFields.BAD);
        // A tied one holds at most 14, so that only A 9 or so much of it counts: 2 * (3 + 4) and not 2 * 3.
        x = Check.told("person 12 speed 0;hat 0 worth 1 of 0;tied 0 worth 20 of 0;wind 0 east 7;");
        Check.due("26: tied with A 9 holds in 7", x.tie(0, 1), 1);
    }

    private static void calm() {
        HatFields x = new HatFields();
        Check.due("27: no hats", x.calm(), 0);
        x = Check.told("person 12 speed 1;hat 0 worth 9 on 14;hat 0 worth 5 on 2;wind 0 east 9;");
        Check.due("27: without wind", x.calm(), 6);
        x.clock(96);
        Check.due("27: as if NOW had no end", x.calm(), 6);
        x.speed(0, 0);
        Check.due("27: never", x.calm(), HatFields.NONE);
        x.clock(0);
        x.wind(0, 1, 4);
        x.hours(1);
        Check.due("27: one is gone", x.many(6), 1);
        x.moves(0, 3);
        Check.due("27: gone ones don't count", x.calm(), 1);
        x = Check.told("person 12 speed 1;hat 0 worth 9 of 0;");
        Check.due("27: they are worn", x.calm(), 0);
        x = Check.told("person 0 speed 1;hat 0 worth 1 on 24;");
        Check.due("27: eight steps", x.calm(), 8);
    }

    private static void drawn() {
        HatFields x = new HatFields();
        int z = 1;
        for (int hour = 0; hour < 24; hour++) {
            z = z * 1103515245 + 12345;
            int due = 10 * (z >>> 16 & 3) + Integer.remainderUnsigned(z >>> 20, 10);
            Check.due("29: draw(" + hour + ")", x.draw(hour), due);
            Check.due("29: windOf(" + hour + ")", x.windOf(hour), due);
        }
        Check.due("29: draw(24)", x.draw(24), HatFields.BAD);
        Check.due("29: draw(-1)", x.draw(-1), HatFields.BAD);
        Check.due("28: seed(-5)", x.seed(-5), z);
        Check.due("28: seed(0)", x.seed(0), -5);
        Check.due("29: draw(3) from 0", x.draw(3), 0);
        Check.due("28: seed(0)", x.seed(0), 12345);
    }
}
