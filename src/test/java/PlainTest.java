/** Promises 1, 2 and 4 to 16: a new object, the tape's bytes, winds, people, hats. */
public final class PlainTest {
    public static void main(String[] args) {
        newObject();
        feed();
        winds();
        people();
        peopleMove();
        hats();
        holds();
        flies();
        make();
        puts();
        down();
        found();
        bow();
        Check.finish();
    }

    private static void newObject() {
        HatFields x = new HatFields();
        for (int what = 0; what <= 6; what++) {
            Check.due("1: many(" + what + ")", x.many(what), 0);
        }
        for (int hour = 0; hour < 24; hour++) {
            Check.due("1: windOf(" + hour + ")", x.windOf(hour), 0);
        }
        Check.due("1: again()", x.again(), HatFields.NONE);
        Check.due("1: seed(5)", x.seed(5), 1);
        Check.due("1: row(0, 0)", x.row(0, 0), -9);
        Check.due("1: trace(0)", x.trace(0), HatFields.NONE);
        for (int i = 0; i < 4; i++) {
            Check.due("1: item", x.item(i, 0, 0), -11);
            Check.due("1: taken", x.taken(i, 0), -11);
        }
        Check.due("1: personOf(0, 0)", x.personOf(0, 0), HatFields.BAD);
        Check.due("1: hatOf(0, 0)", x.hatOf(0, 0), HatFields.BAD);
    }

    private static void feed() {
        HatFields x = new HatFields();
        Check.due("2: feed(0, 0)", x.feed(0, 0), HatFields.BAD);
        Check.due("2: feed(0, 9)", x.feed(0, 9), HatFields.BAD);
        Check.due("2: feed(0, -1)", x.feed(0, -1), HatFields.BAD);
        Check.due("2: feed 1", x.feed(0x20, 1), 1);
        Check.due("2: many(4)", x.many(4), 1);
        Check.due("2: feed 'now 7;' lowest first", x.feed(0x3b3720776f6eL, 6), 7);
        Check.due("2: plain()", x.plain(), 0);
        Check.due("2: many(2)", x.many(2), 7);
        Check.due("2: many(4) used up", x.many(4), 0);
        for (int i = 1; i <= 24; i++) {
            Check.due("2: feed", x.feed(0x2020202020202020L, 8), 8 * i);
        }
        Check.due("2: feed 7", x.feed(0x20202020202020L, 7), 199);
        Check.due("2: feed 2 too many", x.feed(0x2020, 2), HatFields.FULL);
        Check.due("2: many(4)", x.many(4), 199);
        Check.due("2: BAD ahead of FULL", x.feed(0, 9), HatFields.BAD);
        Check.due("2: feed the last", x.feed(0x20, 1), 200);
        Check.due("2: feed", x.feed(0x20, 1), HatFields.FULL);
        Check.due("2: plain() of blanks", x.plain(), 0);
    }

    private static void winds() {
        HatFields x = new HatFields();
        Check.due("4: wind(0, 3, 9)", x.wind(0, 3, 9), 0);
        Check.due("4: wind(0, 1, 4)", x.wind(0, 1, 4), 39);
        Check.due("5: windOf(0)", x.windOf(0), 14);
        Check.due("5: windOf(1)", x.windOf(1), 0);
        Check.due("4: wind(23, 2, 0)", x.wind(23, 2, 0), 0);
        Check.due("5: windOf(23)", x.windOf(23), 20);
        int[][] wrong = {{-1, 0, 0}, {24, 0, 0}, {0, -1, 0}, {0, 4, 0}, {0, 0, -1}, {0, 0, 10}};
        for (int[] w : wrong) {
            Check.due("4: wind of wrong numbers", x.wind(w[0], w[1], w[2]), HatFields.BAD);
        }
        Check.due("5: windOf(0)", x.windOf(0), 14);
        Check.due("5: windOf(-1)", x.windOf(-1), HatFields.BAD);
        Check.due("5: windOf(24)", x.windOf(24), HatFields.BAD);
    }

    private static void people() {
        HatFields x = new HatFields();
        int[][] wrong = {{-1, 0}, {25, 0}, {0, -1}, {0, 4}};
        for (int[] w : wrong) {
            Check.due("6: person of wrong numbers", x.person(w[0], w[1]), HatFields.BAD);
        }
        Check.due("6: many(0)", x.many(0), 0);
        for (int i = 0; i < 5; i++) {
            Check.due("6: person", x.person(6 * i, i % 4), i);
        }
        Check.due("6: a sixth", x.person(0, 0), HatFields.FULL);
        Check.due("6: BAD ahead of FULL", x.person(25, 0), HatFields.BAD);
        Check.due("6: many(0)", x.many(0), 5);
        for (int i = 0; i < 5; i++) {
            Check.due("7: PLACE", x.personOf(i, 0), 6 * i);
            Check.due("7: SPEED", x.personOf(i, 1), i % 4);
            Check.due("7: OWNS", x.personOf(i, 2), 0);
            Check.due("7: HATS", x.personOf(i, 3), 0);
        }
        x = Check.told("person 0;person 4;hat 0 worth 7 of 1;hat 0 worth 8 of 0;hat 0 worth 90 of 1;hat 0 worth 50 on 4;");
        Check.due("7: OWNS", x.personOf(1, 2), 97);
        Check.due("7: HATS", x.personOf(1, 3), 5);
        Check.due("7: OWNS", x.personOf(0, 2), 8);
        Check.due("7: HATS", x.personOf(0, 3), 2);
        Check.due("7: what 4", x.personOf(0, 4), HatFields.BAD);
        Check.due("7: what -1", x.personOf(0, -1), HatFields.BAD);
        Check.due("7: person 2", x.personOf(2, 0), HatFields.BAD);
        Check.due("7: person -1", x.personOf(-1, 0), HatFields.BAD);
    }

    private static void peopleMove() {
        HatFields x = Check.told("person 3;hat 0 worth 1 on 9;hat 0 worth 2 of 0;");
        Check.due("8: moves(0, 9)", x.moves(0, 9), 3);
        Check.due("8: PLACE", x.personOf(0, 0), 9);
        Check.due("8: nothing is put on", x.hatOf(0, 3), -9);
        Check.due("8: a worn hat goes along", x.hatOf(1, 4), 9);
        Check.due("8: moves(0, 25)", x.moves(0, 25), HatFields.BAD);
        Check.due("8: moves(0, -1)", x.moves(0, -1), HatFields.BAD);
        Check.due("8: moves(1, 0)", x.moves(1, 0), HatFields.BAD);
        Check.due("8: moves(-1, 0)", x.moves(-1, 0), HatFields.BAD);
        Check.due("8: PLACE", x.personOf(0, 0), 9);
        Check.due("9: speed(0, 3)", x.speed(0, 3), 1);
        Check.due("9: speed(0, 0)", x.speed(0, 0), 3);
        Check.due("9: speed(0, 4)", x.speed(0, 4), HatFields.BAD);
        Check.due("9: speed(0, -1)", x.speed(0, -1), HatFields.BAD);
        Check.due("9: speed(1, 1)", x.speed(1, 1), HatFields.BAD);
        Check.due("9: SPEED", x.personOf(0, 1), 0);
    }

    private static void hats() {
        HatFields x = new HatFields();
        int[][] wrong = {{-1, 0, 0, 0}, {6, 0, 0, 0}, {0, -1, 0, 0}, {0, 10, 0, 0}, {0, 0, -1, 0}, {0, 0, 100, 0},
            {0, 0, 0, -1}, {0, 0, 0, 25}};
        for (int[] w : wrong) {
            Check.due("10: hat of wrong numbers", x.hat(w[0], w[1], w[2], w[3]), HatFields.BAD);
        }
        Check.due("10: many(1)", x.many(1), 0);
        for (int i = 0; i < 6; i++) {
            Check.due("10: hat", x.hat(i, 9 - i, 99 - i, 24 - i), i);
        }
        Check.due("10: a seventh", x.hat(0, 0, 0, 0), HatFields.FULL);
        Check.due("10: BAD ahead of FULL", x.hat(6, 0, 0, 0), HatFields.BAD);
        for (int i = 0; i < 6; i++) {
            Check.due("11: KIND", x.hatOf(i, 0), i);
            Check.due("11: A", x.hatOf(i, 1), 9 - i);
            Check.due("11: WORTH", x.hatOf(i, 2), 99 - i);
            Check.due("11: nobody", x.hatOf(i, 3), -9);
            Check.due("11: PLACE", x.hatOf(i, 4), 24 - i);
        }
        Check.due("11: what 7", x.hatOf(0, 7), HatFields.BAD);
        Check.due("11: what -1", x.hatOf(0, -1), HatFields.BAD);
        Check.due("11: hat 6", x.hatOf(6, 0), HatFields.BAD);
        Check.due("11: hat -1", x.hatOf(-1, 0), HatFields.BAD);
        x = Check.told("person 8;person 13 speed 0;straw 0 worth 7 of 1;straw 0 worth 7 on 0;wind 0 north 3;");
        Check.due("11: who wears it", x.hatOf(0, 3), 1);
        Check.due("11: where, worn", x.hatOf(0, 4), 13);
        x.moves(0, 24);
        x.hours(1);
        Check.due("11: gone", x.hatOf(1, 4), -9);
        Check.due("11: nobody wears a gone one", x.hatOf(1, 3), -9);
    }

    private static void holds() {
        // By KIND and A 0, 1, 4, 9.
        int[] as = {0, 1, 4, 9};
        int[][] due = {{3, 3, 3, 3}, {3, 3, 5, 7}, {1, 1, 1, 1}, {6, 6, 10, 14}, {1, 0, 1, 0}, {4, 4, 4, 4}};
        HatFields x = new HatFields();
        x.hat(0, 0, 1, 12);
        for (int kind = 0; kind < 6; kind++) {
            for (int i = 0; i < 4; i++) {
                x.make(0, kind, as[i]);
                Check.due("11: HOLDS of kind " + kind + " with A " + as[i], x.hatOf(0, 5), due[kind][i]);
            }
        }
    }

    private static void flies() {
        // By KIND and FORCE 0 to 9.
        int[][] due = {
            {0, 0, 0, 1, 1, 1, 2, 2, 2, 3},
            {0, 0, 0, 1, 1, 1, 2, 2, 2, 3},
            {0, 1, 1, 2, 2, 2, 3, 3, 3, 4},
            {0, 0, 0, 1, 1, 1, 2, 2, 2, 3},
            {0, 2, 2, 4, 4, 4, 6, 6, 6, 8},
            {0, 0, 0, 0, 0, 0, 1, 1, 1, 1}};
        HatFields x = new HatFields();
        x.clock(25);
        x.hat(0, 0, 1, 12);
        for (int kind = 0; kind < 6; kind++) {
            x.make(0, kind, 5);
            for (int force = 0; force < 10; force++) {
                x.wind(1, 2, force);
                Check.due("11: FLIES of kind " + kind + " in " + force, x.hatOf(0, 6), due[kind][force]);
            }
        }
        x.clock(96);
        x.make(0, 0, 0);
        x.wind(0, 1, 6);
        Check.due("11: FLIES in the HOUR 0 of NOW 96", x.hatOf(0, 6), 2);
    }

    private static void make() {
        HatFields x = new HatFields();
        x.hat(4, 3, 50, 7);
        Check.due("12: make(0, 1, 8)", x.make(0, 1, 8), 4);
        Check.due("12: KIND", x.hatOf(0, 0), 1);
        Check.due("12: A", x.hatOf(0, 1), 8);
        Check.due("12: WORTH", x.hatOf(0, 2), 50);
        Check.due("12: PLACE", x.hatOf(0, 4), 7);
        Check.due("12: make(0, 1, 2)", x.make(0, 1, 2), 1);
        Check.due("12: A", x.hatOf(0, 1), 2);
        int[][] wrong = {{-1, 0, 0}, {1, 0, 0}, {0, -1, 0}, {0, 6, 0}, {0, 0, -1}, {0, 0, 10}};
        for (int[] w : wrong) {
            Check.due("12: make of wrong numbers", x.make(w[0], w[1], w[2]), HatFields.BAD);
        }
        Check.due("12: KIND", x.hatOf(0, 0), 1);
    }

    private static void puts() {
        HatFields x = Check.told("person 3;person 4;hat 0 worth 1 on 3;hat 0 worth 2 on 4;hat 0 worth 4 of 1;hat 0 worth 8 on 0;wind 0 west 3;");
        Check.due("13: puts elsewhere", x.puts(1, 0), HatFields.STATE);
        Check.due("13: puts(0, 0)", x.puts(0, 0), 1);
        Check.due("13: who wears it", x.hatOf(0, 3), 0);
        Check.due("13: puts a worn one", x.puts(0, 0), HatFields.STATE);
        Check.due("13: puts what another wears", x.puts(2, 0), HatFields.STATE);
        Check.due("13: puts(4, 0)", x.puts(4, 0), HatFields.BAD);
        Check.due("13: puts(-1, 0)", x.puts(-1, 0), HatFields.BAD);
        Check.due("13: puts(1, 2)", x.puts(1, 2), HatFields.BAD);
        Check.due("13: BAD ahead of STATE", x.puts(0, -1), HatFields.BAD);
        x.hours(1);
        Check.due("13: it is gone", x.hatOf(3, 4), -9);
        Check.due("13: puts a gone one", x.puts(3, 0), HatFields.STATE);
    }

    private static void down() {
        HatFields x = Check.told("person 17;hat 0 worth 1 of 0;hat 0 worth 2 on 4;");
        Check.due("14: down(0)", x.down(0), 17);
        Check.due("14: nobody wears it", x.hatOf(0, 3), -9);
        Check.due("14: it lies there", x.hatOf(0, 4), 17);
        x.moves(0, 0);
        Check.due("14: and stays there", x.hatOf(0, 4), 17);
        Check.due("14: down(0)", x.down(0), HatFields.STATE);
        Check.due("14: down(1)", x.down(1), HatFields.STATE);
        Check.due("14: down(2)", x.down(2), HatFields.BAD);
        Check.due("14: down(-1)", x.down(-1), HatFields.BAD);
    }

    private static void found() {
        HatFields x = Check.told("person 17 speed 0;hat 0 worth 1 of 0;hat 0 worth 2 on 4;wind 0 north 3;");
        Check.due("15: found, worn", x.found(0, 1), HatFields.STATE);
        Check.due("15: found, lying", x.found(1, 1), HatFields.STATE);
        x.hours(1);
        Check.due("15: many(6)", x.many(6), 1);
        Check.due("15: found(1, 25)", x.found(1, 25), HatFields.BAD);
        Check.due("15: found(1, -1)", x.found(1, -1), HatFields.BAD);
        Check.due("15: found(2, 0)", x.found(2, 0), HatFields.BAD);
        Check.due("15: found(1, 20)", x.found(1, 20), 1);
        Check.due("15: where", x.hatOf(1, 4), 20);
        Check.due("15: many(6)", x.many(6), 0);
        Check.due("15: found again", x.found(1, 20), HatFields.STATE);
    }

    private static void bow() {
        HatFields x = Check.told("person 7;person 7;person 8;hat 0 worth 1 of 0;hat 0 worth 2 of 1;hat 0 worth 4 of 0;hat 0 worth 8 of 2;hat 0 worth 16 on 7;");
        Check.due("16: bow(0, 1)", x.bow(0, 1), 3);
        Check.due("16: HATS of 0", x.personOf(0, 3), 2);
        Check.due("16: HATS of 1", x.personOf(1, 3), 5);
        Check.due("16: HATS of 2", x.personOf(2, 3), 8);
        Check.due("16: bow(1, 0)", x.bow(1, 0), 3);
        Check.due("16: HATS of 0", x.personOf(0, 3), 5);
        Check.due("16: one that lies stays", x.hatOf(4, 3), -9);
        Check.due("16: bow(0, 2)", x.bow(0, 2), HatFields.STATE);
        Check.due("16: bow(0, 0)", x.bow(0, 0), HatFields.BAD);
        Check.due("16: bow(0, 3)", x.bow(0, 3), HatFields.BAD);
        Check.due("16: bow(-1, 0)", x.bow(-1, 0), HatFields.BAD);
        x = Check.told("person 7;person 7;");
        Check.due("16: nothing to swap", x.bow(0, 1), 0);
    }
}
