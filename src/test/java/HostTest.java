/** Promises 35 to 42: sheets, shelves, acts, the trace, counts. */
public final class HostTest {
    public static void main(String[] args) {
        sheets();
        items();
        shelves();
        shelvesKeepWhatTheyHold();
        taken();
        acts();
        actsOfAnother();
        parted();
        noAct();
        many();
        Check.finish();
    }

    private static void sheets() {
        HatFields x = new HatFields();
        Check.due("35: sheet(-1, 0, 1)", x.sheet(-1, 0, 1), HatFields.BAD);
        Check.due("35: sheet(4, 0, 1)", x.sheet(4, 0, 1), HatFields.BAD);
        Check.due("35: sort -2", x.sheet(0, -2, 1), HatFields.BAD);
        Check.due("35: sort 4", x.sheet(0, 4, 1), HatFields.BAD);
        Check.due("35: n 41", x.sheet(0, 0, 41), HatFields.BAD);
        Check.due("35: n -1", x.sheet(0, 0, -1), -14);
        Check.due("35: BAD ahead of -14", x.sheet(0, 4, -1), HatFields.BAD);
        Check.due("35: still missing", x.item(0, 0, 0), -11);
        Check.due("35: n 40", x.sheet(3, 3, 40), 1);
        Check.due("35: all 0", x.item(3, 3, 39), 0);
        x.put(3, 39, 7);
        Check.due("35: n 41 changes nothing", x.sheet(3, 3, 41), HatFields.BAD);
        Check.due("35: item", x.item(3, 3, 39), 7);
        Check.due("35: anew", x.sheet(3, 3, 40), 1);
        Check.due("35: all 0 again", x.item(3, 3, 39), 0);
        Check.due("35: missing; n counts nothing", x.sheet(3, -1, -99), 1);
        Check.due("35: missing; n counts nothing", x.sheet(3, -1, 99), 1);
        Check.due("35: missing", x.item(3, 3, 0), -11);
        Check.due("35: n 0", x.sheet(0, 1, 0), 1);
        Check.due("35: no item in it", x.item(0, 1, 0), -12);
    }

    private static void items() {
        HatFields x = new HatFields();
        int[] put = {127, 128, -129, 40000, -40000, Integer.MAX_VALUE, Integer.MIN_VALUE, -1, 65536};
        Check.due("36: missing", x.put(0, 0, 1), -11);
        for (int sort = 0; sort < 4; sort++) {
            x.sheet(sort, sort, 9);
            for (int i = 0; i < 9; i++) {
                Check.due("36: put", x.put(sort, i, put[i]), 1);
            }
            for (int i = 0; i < 9; i++) {
                int due = sort == 0 ? (byte) put[i] : sort == 1 ? (short) put[i] : put[i];
                Check.due("37: item of sort " + sort, x.item(sort, sort, i), due);
            }
            Check.due("36: put outside", x.put(sort, 9, 1), -12);
            Check.due("36: put outside", x.put(sort, -1, 1), -12);
            Check.due("37: item outside", x.item(sort, sort, 9), -12);
            Check.due("37: item outside", x.item(sort, sort, -1), -12);
            for (int other = 0; other < 4; other++) {
                if (other != sort) {
                    Check.due("37: another sort ahead of outside", x.item(sort, other, 99), -13);
                }
            }
        }
        Check.due("36: put(-1, 0, 0)", x.put(-1, 0, 0), HatFields.BAD);
        Check.due("36: put(4, 0, 0)", x.put(4, 0, 0), HatFields.BAD);
        Check.due("37: item(-1, 0, 0)", x.item(-1, 0, 0), HatFields.BAD);
        Check.due("37: item(4, 0, 0)", x.item(4, 0, 0), HatFields.BAD);
        Check.due("37: sort -1", x.item(0, -1, 0), HatFields.BAD);
        Check.due("37: sort 4", x.item(0, 4, 0), HatFields.BAD);
        x.sheet(0, -1, 0);
        Check.due("37: BAD ahead of missing", x.item(0, 4, 0), HatFields.BAD);
        Check.due("37: missing ahead of outside", x.item(0, 0, -1), -11);
        Check.due("36: missing ahead of outside", x.put(0, -1, 0), -11);
    }

    private static void shelves() {
        HatFields x = Check.told("hat 0 worth 1 on 0;tied 0 worth 1 on 0;");
        x.sheet(2, 1, 5);
        Check.due("38: shelf(0, 0, 1)", x.shelf(0, 0, 1), 1);
        Check.due("38: it holds the hat", x.taken(0, 0), 1);
        Check.due("38: shelf(0, 1, 2)", x.shelf(0, 1, 2), 1);
        Check.due("38: it holds the row", x.taken(0, 11), 5);
        Check.due("38: the hat is off it", x.taken(0, 0), -13);
        Check.due("38: shelf(0, 0, 0)", x.shelf(0, 0, 0), 1);
        Check.due("38: the row is off it", x.taken(0, 11), -13);
        Check.due("38: a missing row", x.shelf(0, 1, 0), 1);
        Check.due("38: nothing on it", x.taken(0, 0), -11);
        x.shelf(0, 0, 0);
        Check.due("38: nothing; n counts nothing", x.shelf(0, 2, 99), 1);
        Check.due("38: nothing on it", x.taken(0, 0), -11);
        x.shelf(3, 0, 1);
        int[][] wrong = {{-1, 0, 0}, {4, 0, 0}, {3, -1, 0}, {3, 3, 0}, {3, 0, 2}, {3, 0, -1}, {3, 1, 4}, {3, 1, -1}, {4, 2, 0}};
        for (int[] w : wrong) {
            Check.due("38: BAD", x.shelf(w[0], w[1], w[2]), HatFields.BAD);
        }
        Check.due("38: it stays", x.taken(3, 3), 1);
    }

    private static void shelvesKeepWhatTheyHold() {
        HatFields x = Check.told("hat 0 worth 1 on 0;tied 0 worth 1 on 0;");
        x.shelf(0, 0, 1);
        x.sheet(0, 2, 7);
        x.shelf(1, 1, 0);
        x.sheet(0, 0, 3);
        Check.due("38: the row that it was", x.taken(1, 12), 7);
        x.sheet(0, -1, 0);
        Check.due("38: the row that it was", x.taken(1, 12), 7);
        x.make(1, 2, 0);
        Check.due("39: of the kind that it is now", x.taken(0, 2), 1);
        Check.due("39: no more tied", x.taken(0, 3), -13);
        Check.tell(x, "hat 0 worth 1 on 0;");
        Check.due("38: no such hat any more", x.taken(0, 0), -11);
        Check.due("40: nor an act of it", x.act(0, 0, 5), 0);
        x.hat(5, 0, 0, 0);
        Check.due("38: by its number", x.taken(0, 5), 1);
        Check.due("38: the row stays", x.taken(1, 12), 7);
    }

    private static void taken() {
        HatFields x = Check.told("hat 0 worth 1 on 0;pinned 0 worth 1 on 0;straw 0 worth 1 on 0;tied 0 worth 1 on 0;"
            + "feathered 0 worth 1 on 0;felt 0 worth 1 on 0;");
        int[] kinds = {1, 3, 5, 11, 21, 33};
        for (int kind = 0; kind < 6; kind++) {
            x.shelf(0, 0, kind);
            for (int as = 0; as < 6; as++) {
                boolean is = (kinds[kind] >> as & 1) != 0;
                Check.due("39: kind " + kind + " taken for " + as, x.taken(0, as), is ? kind : -13);
            }
            for (int as = 10; as < 14; as++) {
                Check.due("39: a hat taken for a row", x.taken(0, as), -13);
            }
        }
        for (int sort = 0; sort < 4; sort++) {
            x.sheet(0, sort, 10 + sort);
            x.shelf(1, 1, 0);
            for (int as = 10; as < 14; as++) {
                Check.due("39: a row of sort " + sort + " taken for " + as, x.taken(1, as), as - 10 == sort ? as : -13);
            }
            Check.due("39: a row taken for a hat", x.taken(1, 0), -13);
        }
        int[] wrong = {-1, 6, 7, 8, 9, 14, Integer.MIN_VALUE, Integer.MAX_VALUE};
        for (int as : wrong) {
            Check.due("39: as " + as, x.taken(0, as), HatFields.BAD);
            Check.due("39: BAD ahead of nothing", x.taken(3, as), HatFields.BAD);
        }
        Check.due("39: shelf 4", x.taken(4, 0), HatFields.BAD);
        Check.due("39: shelf -1", x.taken(-1, 0), HatFields.BAD);
        Check.due("39: nothing", x.taken(3, 0), -11);
        Check.due("39: nothing", x.taken(3, 13), -11);
    }

    /** The hat has number 1, A 4 and x is 7. */
    private static void acts() {
        HatFields x = Check.told("hat 0 worth 1 on 0;hat 4 worth 1 on 0;");
        x.shelf(2, 0, 1);
        act(x, 0, 0, 8, 10);
        act(x, 0, 1, 16, 11, 10);
        act(x, 0, 2, 2, 12);
        act(x, 0, 3, 20, 13, 11, 10);
        act(x, 1, 0, 8, 10);
        act(x, 1, 1, 12, 20, 11, 10);
        act(x, 1, 2, 2, 12);
        act(x, 1, 3, 8, 13, 20, 11, 10);
        act(x, 2, 0, 24, 30, 10);
        act(x, 2, 1, 48, 11, 30, 10);
        act(x, 2, 2, 2, 12);
        act(x, 2, 3, 52, 31, 13, 11, 30, 10, 12);
        act(x, 3, 0, 7, 51, 10);
        act(x, 3, 1, 10, 20, 11, 51, 10);
        act(x, 3, 2, 2, 50, 12);
        act(x, 3, 3, 14, 13, 20, 11, 51, 10);
        act(x, 4, 0, -24, 40, 30, 10);
        act(x, 4, 1, -54, 41, 11, 40, 30, 10, 40, 30, 10);
        act(x, 4, 2, 2, 12);
        act(x, 4, 3, -50, 31, 13, 41, 11, 40, 30, 10, 40, 30, 10, 12);
        act(x, 5, 0, 8, 10);
        act(x, 5, 1, 16, 11, 10);
        act(x, 5, 2, 7, 61, 12, 10);
        act(x, 5, 3, 40, 60, 13, 11, 10);
        x.make(1, 0, 4);
        Check.due("40: ints wrap", x.act(2, 0, Integer.MAX_VALUE), Integer.MIN_VALUE);
        Check.due("40: the rest away", x.act(2, 2, -7), -2);
        x.make(1, 0, 0);
        Check.due("40: the least int by -1", x.act(2, 2, Integer.MIN_VALUE), Integer.MIN_VALUE);
    }

    private static void act(HatFields x, int kind, int act, int due, int... bodies) {
        String call = "40: act " + act + " of kind " + kind;
        x.make(1, kind, 4);
        Check.due(call, x.act(2, act, 7), due);
        Check.due(call + ": many(5)", x.many(5), bodies.length);
        for (int i = 0; i < bodies.length; i++) {
            Check.due("41: " + call + ": trace(" + i + ")", x.trace(i), bodies[i]);
        }
        Check.due("41: " + call + ": behind the last", x.trace(bodies.length), HatFields.NONE);
        Check.due("41: trace(-1)", x.trace(-1), HatFields.NONE);
    }

    /** The hat has number 5, A 3 and x is -100, so that what is shared is not 0. */
    private static void actsOfAnother() {
        HatFields x = new HatFields();
        for (int i = 0; i < 6; i++) {
            x.hat(0, 3, 0, 0);
        }
        x.shelf(1, 0, 5);
        int[][] due = {{-95, -190, 50, -191}, {-95, -193, 50, -196}, {-285, -570, 50, -573}, {-100, -203, 48, -202},
            {285, 540, 50, 541}, {-95, -190, 58, -382}};
        for (int kind = 0; kind < 6; kind++) {
            x.make(5, kind, 3);
            for (int act = 0; act < 4; act++) {
                Check.due("40: act " + act + " of kind " + kind + ", number 5", x.act(1, act, -100), due[kind][act]);
            }
        }
    }

    /** A is the hat's number, so that shares has nothing to part by. */
    private static void parted() {
        HatFields x = Check.told("hat 0 worth 1 on 0;hat 1 worth 1 on 0;");
        x.shelf(0, 0, 1);
        partedBy0(x, 0, 2, 12);
        partedBy0(x, 3, 2, 50, 12);
        partedBy0(x, 5, 2, 61, 12);
        partedBy0(x, 2, 3, 31, 13, 11, 30, 10, 12);
        partedBy0(x, 4, 3, 31, 13, 41, 11, 40, 30, 10, 40, 30, 10, 12);
        x.make(1, 5, 1);
        Check.due("40: other acts don't mind", x.act(0, 3, 7), 34);
    }

    private static void partedBy0(HatFields x, int kind, int act, int... bodies) {
        x.make(1, kind, 1);
        Check.due("40: parted by 0, kind " + kind, x.act(0, act, 7), -15);
        Check.due("41: bodies that ran", x.many(5), bodies.length);
        for (int i = 0; i < bodies.length; i++) {
            Check.due("41: trace(" + i + ")", x.trace(i), bodies[i]);
        }
    }

    private static void noAct() {
        HatFields x = Check.told("hat 0 worth 1 on 0;");
        x.sheet(0, 0, 1);
        x.shelf(0, 0, 0);
        x.shelf(1, 1, 0);
        int[][] wrong = {{-1, 0}, {4, 0}, {0, -1}, {0, 4}, {1, 0}, {2, 0}};
        for (int[] w : wrong) {
            Check.due("40: act(0, 0, 5)", x.act(0, 0, 5), 5);
            Check.due("41: a trace", x.trace(0), 10);
            Check.due("40: 0", x.act(w[0], w[1], 5), 0);
            Check.due("41: no trace then", x.many(5), 0);
            Check.due("41: no trace then", x.trace(0), HatFields.NONE);
        }
    }

    private static void many() {
        HatFields x = Check.told("person 0 speed 0;person 1 speed 0;hat 0 worth 1 on 0;hat 0 worth 1 on 20;hat 0 worth 1 on 1;wind 8 north 4;now 8;");
        x.hours(1);
        x.prove(4);
        Check.feed(x, "abcde");
        x.shelf(0, 0, 0);
        x.act(0, 3, 1);
        int[] due = {2, 3, 9, 4, 5, 3, 2};
        for (int what = 0; what < 7; what++) {
            Check.due("42: many(" + what + ")", x.many(what), due[what]);
        }
        Check.due("42: many(7)", x.many(7), HatFields.BAD);
        Check.due("42: many(-1)", x.many(-1), HatFields.BAD);
    }
}
