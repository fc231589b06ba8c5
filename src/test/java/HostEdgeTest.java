import java.util.ArrayList;
import java.util.List;

/** The edges of promises 35 to 42: sheets of no and of 40 items, narrowed numbers, shelves, acts that wrap, the trace. */
public final class HostEdgeTest {
    private static final int BAD = HatFields.BAD, NONE = HatFields.NONE;
    private static final int LEAST = Integer.MIN_VALUE, MOST = Integer.MAX_VALUE;
    private static final int MISSING = -11, OUTSIDE = -12, OTHER_SORT = -13, BELOW_0 = -14, PARTED = -15;

    public static void main(String[] args) {
        sheetSizes();
        sheetRefused();
        sheetAnew();
        putNarrowed();
        putRefused();
        putChanges();
        itemRefused();
        itemsAsLowAsRefusals();
        shelfRefused();
        shelfChanges();
        shelfHats();
        shelfRows();
        takenRefused();
        takenKinds();
        takenRows();
        actWraps();
        actCut();
        actParted();
        actNone();
        actChanges();
        actOfStateNow();
        trace();
        many();
        manyChangesNothing();
        Check.finish();
    }

    // ---- 35: sheet

    private static void sheetSizes() {
        for (int sheet = 0; sheet < 4; sheet++) {
            for (int sort = 0; sort < 4; sort++) {
                for (int n = 0; n <= 40; n++) {
                    HatFields x = new HatFields();
                    Check.due("35: sheet(" + sheet + ", " + sort + ", " + n + ")", x.sheet(sheet, sort, n), 1);
                    x.shelf(0, 1, sheet);
                    Check.due("35: so many", x.taken(0, 10 + sort), n);
                    Check.due("35: the last is 0", x.item(sheet, sort, n - 1), n == 0 ? OUTSIDE : 0);
                    Check.due("35: behind the last", x.item(sheet, sort, n), OUTSIDE);
                }
            }
        }
        Twins.justThisChanges("35: sheet(3, 2, 0)", Twins::rich, x -> x.sheet(3, 2, 0), 1, emptySheet(3, 2));
    }

    private static String[] emptySheet(int sheet, int sort) {
        List<String> lines = new ArrayList<>();
        for (int s = 0; s < 4; s++) {
            for (int i = 0; i < 5; i++) {
                lines.add("item(" + sheet + ", " + s + ", " + i + ")=" + (s == sort ? OUTSIDE : OTHER_SORT));
            }
        }
        return lines.toArray(new String[0]);
    }

    private static void sheetRefused() {
        int[][] bad = {{-1, 0, 1}, {4, 0, 1}, {LEAST, 0, 1}, {MOST, 0, 1}, {0, -2, 1}, {0, 4, 1}, {0, LEAST, 1}, {0, MOST, 1},
            {0, 0, 41}, {0, 3, 41}, {0, 0, MOST}, {3, 0, 41}};
        for (int[] b : bad) {
            sheetDue("BAD", b, BAD);
        }
        for (int n : new int[] {-1, -40, LEAST}) {
            for (int sort = 0; sort < 4; sort++) {
                sheetDue("a size below 0", new int[] {0, sort, n}, BELOW_0);
                sheetDue("a size below 0", new int[] {3, sort, n}, BELOW_0);
            }
            sheetDue("BAD ahead of -14", new int[] {4, 0, n}, BAD);
            sheetDue("BAD ahead of -14", new int[] {-1, 0, n}, BAD);
            sheetDue("BAD ahead of -14", new int[] {0, 4, n}, BAD);
            sheetDue("BAD ahead of -14", new int[] {0, -2, n}, BAD);
            sheetDue("BAD, though missing", new int[] {4, -1, n}, BAD);
        }
        for (int n : new int[] {0, 40, 41, -1, LEAST, MOST}) {
            sheetDue("n counts nothing; it is missing already", new int[] {3, -1, n}, 1);
            HatFields x = Twins.rich();
            Check.due("35: n counts nothing", x.sheet(0, -1, n), 1);
            Check.due("35: missing", x.item(0, 0, 0), MISSING);
        }
    }

    private static void sheetDue(String what, int[] s, int answer) {
        String call = "35: sheet(" + s[0] + ", " + s[1] + ", " + s[2] + "), " + what;
        Twins.nothingChanges(call, Twins::rich, x -> x.sheet(s[0], s[1], s[2]), answer);
    }

    private static void sheetAnew() {
        HatFields x = new HatFields();
        x.sheet(1, 0, 40);
        for (int i = 0; i < 40; i++) {
            x.put(1, i, 9);
        }
        x.sheet(1, 2, 40);
        for (int i = 0; i < 40; i++) {
            Check.due("35: all 0", x.item(1, 2, i), 0);
        }
        x.put(1, 0, 5);
        x.sheet(1, -1, 0);
        Check.due("35: missing", x.item(1, 2, 0), MISSING);
        x.sheet(1, 2, 1);
        Check.due("35: all 0, behind a missing one", x.item(1, 2, 0), 0);
        x.sheet(2, 2, 1);
        x.put(2, 0, 7);
        Check.due("35: each sheet has a row of its own", x.item(1, 2, 0), 0);
    }

    // ---- 36: put

    /** Item i becomes v, narrowed to its sort. */
    private static void putNarrowed() {
        int[] numbers = {0, 1, -1, 127, 128, 129, 255, 256, -128, -129, -256, 32767, 32768, 65535, 65536, -32768, -32769, MOST, LEAST};
        int[] bytes = {0, 1, -1, 127, -128, -127, -1, 0, -128, 127, 0, -1, 0, -1, 0, 0, -1, -1, 0};
        int[] shorts = {0, 1, -1, 127, 128, 129, 255, 256, -128, -129, -256, 32767, -32768, -1, 0, -32768, 32767, -1, 0};
        int[][] due = {bytes, shorts, numbers, numbers};
        for (int sort = 0; sort < 4; sort++) {
            HatFields x = new HatFields();
            x.sheet(2, sort, 1);
            for (int i = 0; i < numbers.length; i++) {
                Check.due("36: put(2, 0, " + numbers[i] + ")", x.put(2, 0, numbers[i]), 1);
                Check.due("36: " + numbers[i] + " in a row of sort " + sort, x.item(2, sort, 0), due[sort][i]);
            }
        }
    }

    private static void putRefused() {
        for (int sheet : new int[] {-1, 4, LEAST, MOST}) {
            Twins.nothingChanges("36: put(" + sheet + ", 0, 1)", Twins::rich, x -> x.put(sheet, 0, 1), BAD);
            Twins.nothingChanges("36: BAD ahead of -12", Twins::rich, x -> x.put(sheet, -1, 1), BAD);
        }
        for (int i : new int[] {-1, 0, 40, LEAST, MOST}) {
            Twins.nothingChanges("36: missing, ahead of -12", Twins::rich, x -> x.put(3, i, 1), MISSING);
        }
        int[] sizes = {4, 3, 2};
        for (int sheet = 0; sheet < 3; sheet++) {
            int s = sheet;
            for (int i : new int[] {-1, sizes[sheet], 40, LEAST, MOST}) {
                Twins.nothingChanges("36: put(" + sheet + ", " + i + ", 1)", Twins::rich, x -> x.put(s, i, 1), OUTSIDE);
                Twins.nothingChanges("36: -12 whatever comes", Twins::rich, x -> x.put(s, i, MOST), OUTSIDE);
            }
        }
        HatFields x = new HatFields();
        x.sheet(0, 0, 0);
        Check.due("36: an empty row", x.put(0, 0, 1), OUTSIDE);
        x.sheet(0, 0, 40);
        Check.due("36: the last of 40", x.put(0, 39, 1), 1);
        Check.due("36: one too many", x.put(0, 40, 1), OUTSIDE);
    }

    private static void putChanges() {
        Twins.justThisChanges("36: the first", Twins::rich, x -> x.put(0, 0, -100), 1, "item(0, 0, 0)=-100");
        Twins.justThisChanges("36: the last", Twins::rich, x -> x.put(0, 3, 300), 1, "item(0, 0, 3)=44");
        Twins.justThisChanges("36: a short", Twins::rich, x -> x.put(1, 0, 40000), 1, "item(1, 1, 0)=-25536");
        Twins.justThisChanges("36: a long", Twins::rich, x -> x.put(2, 1, LEAST), 1, "item(2, 3, 1)=" + LEAST);
    }

    // ---- 37: item

    private static void itemRefused() {
        for (int wrong : new int[] {-1, 4, LEAST, MOST}) {
            itemDue("no such sheet", wrong, 0, 0, BAD);
            itemDue("no such sheet, ahead of -12", wrong, 0, -1, BAD);
            itemDue("no such sort", 0, wrong, 0, BAD);
            itemDue("no such sort, ahead of -11", 3, wrong, 0, BAD);
            itemDue("no such sort, ahead of -12", 0, wrong, 4, BAD);
        }
        int[] sorts = {0, 1, 3};
        int[] sizes = {4, 3, 2};
        for (int sort = 0; sort < 4; sort++) {
            itemDue("missing", 3, sort, 0, MISSING);
            itemDue("missing, ahead of -12", 3, sort, -1, MISSING);
            for (int sheet = 0; sheet < 3; sheet++) {
                boolean other = sort != sorts[sheet];
                for (int i : new int[] {-1, sizes[sheet], 40, LEAST, MOST}) {
                    itemDue("outside", sheet, sort, i, other ? OTHER_SORT : OUTSIDE);
                }
                if (other) {
                    itemDue("another sort", sheet, sort, 0, OTHER_SORT);
                }
            }
        }
        itemDue("the first", 0, 0, 0, 5);
        itemDue("the last", 0, 0, 3, 0);
        itemDue("the last", 1, 1, 2, -300);
        itemDue("of longs the lowest 32 bits", 2, 3, 0, 70000);
    }

    private static void itemDue(String what, int sheet, int sort, int i, int answer) {
        String call = "37: item(" + sheet + ", " + sort + ", " + i + "), " + what;
        Twins.nothingChanges(call, Twins::rich, x -> x.item(sheet, sort, i), answer);
    }

    /** An item may be as low as these, too. */
    private static void itemsAsLowAsRefusals() {
        for (int sort = 0; sort < 4; sort++) {
            HatFields x = new HatFields();
            x.sheet(0, sort, 1);
            for (int v = -20; v < 0; v++) {
                x.put(0, 0, v);
                Check.due("37: an item of " + v, x.item(0, sort, 0), v);
            }
        }
    }

    // ---- 38: shelf

    private static void shelfRefused() {
        for (int wrong : new int[] {-1, 4, LEAST, MOST}) {
            shelfDue("no such shelf", wrong, 0, 0, BAD);
            shelfDue("no such shelf", wrong, 1, 0, BAD);
            shelfDue("no such shelf", wrong, 2, 0, BAD);
            shelfDue("no such sheet", 0, 1, wrong, BAD);
        }
        for (int wrong : new int[] {-1, 3, LEAST, MOST}) {
            shelfDue("no such what", 0, wrong, 0, BAD);
        }
        for (int wrong : new int[] {-1, 5, 6, LEAST, MOST}) {
            shelfDue("no such hat", 0, 0, wrong, BAD);
            shelfDue("no such hat", 3, 0, wrong, BAD);
        }
        shelfDue("the hat that it holds", 0, 0, 1, 1);
        shelfDue("the row that it holds", 1, 1, 0, 1);
        for (int n : new int[] {0, -1, LEAST, MOST}) {
            shelfDue("nothing, as it was; n counts nothing", 3, 2, n, 1);
        }
        shelfDue("a missing row: nothing, as it was", 3, 1, 3, 1);
        Check.due("38: no HATS", new HatFields().shelf(0, 0, 0), BAD);
    }

    private static void shelfDue(String what, int shelf, int sort, int n, int answer) {
        String call = "38: shelf(" + shelf + ", " + sort + ", " + n + "), " + what;
        Twins.nothingChanges(call, Twins::rich, x -> x.shelf(shelf, sort, n), answer);
    }

    private static void shelfChanges() {
        String nothing = "taken(0, 0)=-11 taken(0, 1)=-11 taken(0, 2)=-11 taken(0, 3)=-11 taken(0, 4)=-11 taken(0, 5)=-11 "
            + "taken(0, 10)=-11 taken(0, 11)=-11 taken(0, 12)=-11 taken(0, 13)=-11";
        String[] lines = nothing.replace(" taken", "|taken").split("\\|");
        Twins.justThisChanges("38: nothing", Twins::rich, x -> x.shelf(0, 2, 0), 1, lines);
        Twins.justThisChanges("38: the row of a missing sheet", Twins::rich, x -> x.shelf(0, 1, 3), 1, lines);
        Twins.justThisChanges("38: a row for a hat", Twins::rich, x -> x.shelf(0, 1, 2), 1, "taken(0, 0)=-13", "taken(0, 13)=2");
        Twins.justThisChanges("38: a hat for a row", Twins::rich, x -> x.shelf(1, 0, 2), 1, "taken(1, 10)=-13", "taken(1, 0)=2",
            "taken(1, 1)=2", "taken(1, 3)=2");
        Twins.justThisChanges("38: a hat for a hat", Twins::rich, x -> x.shelf(0, 0, 4), 1, "taken(0, 0)=4", "taken(0, 1)=4");
        Twins.justThisChanges("38: a row for a row", Twins::rich, x -> x.shelf(1, 1, 1), 1, "taken(1, 10)=-13", "taken(1, 11)=3");
    }

    /** A HAT by its number; nothing, if there is no such one any more. */
    private static void shelfHats() {
        HatFields x = Twins.full();
        for (int shelf = 0; shelf < 4; shelf++) {
            for (int h = 0; h < 6; h++) {
                Check.due("38: shelf(" + shelf + ", 0, " + h + ")", x.shelf(shelf, 0, h), 1);
                Check.due("39: taken(" + shelf + ", 0)", x.taken(shelf, 0), h);
            }
            Check.due("38: no seventh", x.shelf(shelf, 0, 6), BAD);
        }
        x = Check.told("hat 0 worth 1 on 0;hat 0 worth 1 on 0;");
        x.shelf(0, 0, 0);
        x.shelf(1, 0, 1);
        Check.tell(x, "straw 0 worth 1 on 0;");
        Check.due("38: another hat of that number", x.taken(0, 2), 0);
        Check.due("38: no such one any more", x.taken(1, 0), MISSING);
        Check.due("40: no such one any more", x.act(1, 0, 7), 0);
        Check.due("41: no TRACE then", x.many(5), 0);
        x.plain();
        Check.due("38: no such one any more", x.taken(0, 0), MISSING);
        x = new HatFields();
        x.keep();
        x.hat(0, 0, 0, 0);
        x.shelf(2, 0, 0);
        x.again();
        Check.due("38: no such one any more, behind again()", x.taken(2, 0), MISSING);
        Check.due("38: nor can it be held", x.shelf(3, 0, 0), BAD);
    }

    private static void shelfRows() {
        HatFields x = Twins.rich();
        for (int shelf = 0; shelf < 4; shelf++) {
            Check.due("38: one row on each shelf", x.shelf(shelf, 1, 2), 1);
            Check.due("39: its items", x.taken(shelf, 13), 2);
        }
        x.sheet(2, 0, 7);
        Check.due("38: the row, not the sheet", x.taken(0, 13), 2);
        x.shelf(0, 1, 2);
        Check.due("38: the new row", x.taken(0, 10), 7);
        x.sheet(2, -1, 0);
        Check.due("38: the row, though its sheet is missing", x.taken(0, 10), 7);
        Check.due("38: the older row", x.taken(1, 13), 2);
        x.sheet(0, 0, 0);
        x.shelf(3, 1, 0);
        Check.due("39: an empty row is something", x.taken(3, 10), 0);
        Check.due("39: an empty row of another sort", x.taken(3, 11), OTHER_SORT);
        x.plain();
        Check.due("38: a row stays behind plain()", x.taken(0, 10), 7);
    }

    // ---- 39: taken

    private static void takenRefused() {
        for (int wrong : new int[] {-1, 4, LEAST, MOST}) {
            takenDue("no such shelf", wrong, 0, BAD);
            takenDue("no such shelf", wrong, 10, BAD);
        }
        for (int as : new int[] {-1, 6, 7, 8, 9, 14, 15, LEAST, LEAST + 9, LEAST + 10, LEAST + 11, MOST}) {
            for (int shelf = 0; shelf < 4; shelf++) {
                takenDue("no such as, ahead of -11 and -13", shelf, as, BAD);
            }
        }
        for (int as : new int[] {0, 1, 2, 3, 4, 5, 10, 11, 12, 13}) {
            takenDue("nothing", 3, as, MISSING);
            takenDue("hat 1, a hat", 0, as, as == 0 ? 1 : OTHER_SORT);
            takenDue("a row of bytes", 1, as, as == 10 ? 4 : OTHER_SORT);
            takenDue("hat 0, feathered and gone", 2, as, as == 0 || as == 2 || as == 4 ? 0 : OTHER_SORT);
        }
    }

    private static void takenDue(String what, int shelf, int as, int answer) {
        Twins.nothingChanges("39: taken(" + shelf + ", " + as + "), " + what, Twins::rich, x -> x.taken(shelf, as), answer);
    }

    private static void takenKinds() {
        int[][] under = {{0}, {0, 1}, {0, 2}, {0, 1, 3}, {0, 2, 4}, {0, 5}};
        for (int kind = 0; kind < 6; kind++) {
            HatFields x = Twins.full();
            x.make(5, kind, 0);
            x.shelf(0, 0, 5);
            for (int as = 0; as < 6; as++) {
                int due = OTHER_SORT;
                for (int one : under[kind]) {
                    due = one == as ? 5 : due;
                }
                Check.due("39: kind " + kind + " taken for " + as, x.taken(0, as), due);
            }
        }
    }

    private static void takenRows() {
        for (int sort = 0; sort < 4; sort++) {
            for (int n : new int[] {0, 1, 40}) {
                HatFields x = new HatFields();
                x.sheet(1, sort, n);
                x.shelf(2, 1, 1);
                for (int as = 10; as < 14; as++) {
                    Check.due("39: sort " + sort + " taken for " + (as - 10), x.taken(2, as), as - 10 == sort ? n : OTHER_SORT);
                }
                for (int as = 0; as < 6; as++) {
                    Check.due("39: a row taken for a hat", x.taken(2, as), OTHER_SORT);
                }
            }
        }
    }

    // ---- 40: act

    private static HatFields onShelf(int number, int kind, int a) {
        HatFields x = new HatFields();
        for (int i = 0; i <= number; i++) {
            x.hat(kind, a, 0, 0);
        }
        x.shelf(3, 0, number);
        return x;
    }

    /** Ints that wrap. */
    private static void actWraps() {
        HatFields x = onShelf(5, 0, 9);
        Check.due("40: x + n", x.act(3, 0, MOST), LEAST + 4);
        Check.due("40: x + n", x.act(3, 0, LEAST), LEAST + 5);
        Check.due("40: holds(x) * 2", x.act(3, 1, MOST), 8);
        Check.due("40: holds(x) * 2", x.act(3, 1, 1 << 30), LEAST + 10);
        Check.due("40: flies(x) ^ a", x.act(3, 3, LEAST), 10 ^ 9);
        x = onShelf(5, 1, 9);
        Check.due("40: super.flies(x) - a", x.act(3, 1, (1 << 30) - 5), LEAST - 9);
        x = onShelf(5, 2, 9);
        Check.due("40: super.holds(x) * 3", x.act(3, 0, (1 << 30) - 5), 3 << 30);
        x = onShelf(1, 4, 9);
        Check.due("40: 0 - super.holds(x)", x.act(3, 0, LEAST - 1), LEAST);
        Check.due("40: 0 - super.holds(x)", x.act(3, 0, MOST - 1), -(MOST - 2));
        Check.due("40: super.flies(x) + holds(n)", x.act(3, 1, 1 << 29), -6 * (1 << 29) - 6 - 6);
        Check.due("40: super.tells(x) + shares(n), 1 by 8", x.act(3, 3, 1 << 29), -6 * (1 << 29) - 6 - 6 ^ 9);
        x = onShelf(4, 2, 5);
        Check.due("40: super.tells(x) + shares(n), 4 by 1", x.act(3, 3, MOST - 4), ((MOST - 4 + 4) * 3 * 2 ^ 5) + 4);
        x = onShelf(0, 3, 1);
        Check.due("40: x + 2 wraps: by 1, less its last bit", x.act(3, 2, MOST), (LEAST + 1) ^ 1);
        x = onShelf(1, 5, 3);
        Check.due("40: super.tells(x) * 2", x.act(3, 3, (1 << 29) - 1), (1 << 30 ^ 3) * 2);
        x = onShelf(5, 5, 4);
        Check.due("40: super.shares(x) + holds(a)", x.act(3, 2, -MOST), LEAST + 8);
        x = onShelf(5, 0, 4);
        Check.due("40: the least by -1 is itself", x.act(3, 2, LEAST), LEAST);
    }

    /** x by (a - n), the rest away. */
    private static void actCut() {
        int[][] due = {{7, 2, 3}, {-7, 2, -3}, {7, -2, -3}, {-7, -2, 3}, {1, 9, 0}, {-1, 9, 0}, {0, 3, 0}, {8, 9, 0}, {9, 9, 1},
            {-9, 9, -1}, {-10, 9, -1}, {MOST, 1, MOST}, {LEAST, 1, LEAST}, {LEAST, -5, 429496729}, {MOST, -5, -429496729}};
        for (int[] d : due) {
            int number = d[1] < 0 ? -d[1] : 0;
            HatFields x = onShelf(number, 0, number + d[1]);
            Check.due("40: " + d[0] + " by " + d[1], x.act(3, 2, d[0]), d[2]);
        }
    }

    /** -15 if a and n are the same; that is all that act() answers then. */
    private static void actParted() {
        boolean[][] shares = {{false, false, true, false}, {false, false, true, false}, {false, false, true, true},
            {false, false, true, false}, {false, false, true, true}, {false, false, true, false}};
        for (int number = 0; number < 6; number++) {
            for (int kind = 0; kind < 6; kind++) {
                for (int act = 0; act < 4; act++) {
                    for (int a = 0; a < 10; a++) {
                        HatFields x = onShelf(number, kind, a);
                        boolean parted = shares[kind][act] && a == number;
                        int got = x.act(3, act, 1000);
                        String call = "40: act " + act + " of kind " + kind + ", n " + number + ", a " + a;
                        Check.due(call + ": parted", got == PARTED ? 1 : 0, parted ? 1 : 0);
                        if (parted) {
                            Check.due("41: 12 began last", x.trace(x.many(5) - 1), 12);
                        }
                    }
                }
            }
        }
        HatFields x = onShelf(2, 0, 4);
        Check.due("40: an act may answer -15 by itself", x.act(3, 2, -30), PARTED);
        Check.due("41: its one body", x.many(5), 1);
    }

    private static void actNone() {
        int[][] none = {{-1, 0}, {4, 0}, {LEAST, 0}, {MOST, 0}, {0, -1}, {0, 4}, {0, LEAST}, {0, MOST}, {1, 0}, {1, 3}, {3, 0}, {3, 3},
            {4, 4}};
        String[] noTrace = {"many(5)=0", "trace(0)=-3", "trace(1)=-3", "trace(2)=-3"};
        for (int[] n : none) {
            Twins.justThisChanges("40: act(" + n[0] + ", " + n[1] + ", 5)", Twins::rich, x -> x.act(n[0], n[1], 5), 0, noTrace);
        }
        Twins.nothingChanges("40: nothing, no TRACE", HatFields::new, x -> x.act(0, 0, 5), 0);
        HatFields x = onShelf(0, 0, 0);
        Check.due("40: holds(0) of hat 0 is 0, too", x.act(3, 0, 0), 0);
        Check.due("41: but it ran", x.trace(0), 10);
    }

    private static void actChanges() {
        Twins.justThisChanges("40: holds", Twins::rich, x -> x.act(0, 0, 5), 6, "many(5)=1", "trace(0)=10", "trace(1)=-3", "trace(2)=-3");
        Twins.justThisChanges("40: flies", Twins::rich, x -> x.act(0, 1, 5), 12, "many(5)=2", "trace(0)=11", "trace(1)=10", "trace(2)=-3");
        Twins.nothingChanges("40: tells, as it ran latest", Twins::rich, x -> x.act(0, 3, 5), 15);
        Twins.justThisChanges("40: of a gone one", Twins::rich, x -> x.act(2, 2, 5), 2, "many(5)=1", "trace(0)=12", "trace(1)=-3",
            "trace(2)=-3");
    }

    private static void actOfStateNow() {
        HatFields x = Twins.rich();
        x.make(1, 2, 3);
        Check.due("40: of the KIND that it is now", x.act(0, 0, 5), 18);
        x.make(1, 0, 9);
        Check.due("40: with the A that it has now", x.act(0, 2, 80), 10);
        x.make(1, 0, 1);
        Check.due("40: A as its number now", x.act(0, 2, 80), PARTED);
        x.shelf(1, 0, 2);
        Check.due("40: a hat for a row", x.act(1, 0, 5), 5);
        x.shelf(0, 1, 0);
        Check.due("40: a row for a hat", x.act(0, 0, 5), 0);
    }

    // ---- 41 and 42: trace, many

    private static void trace() {
        for (int i : new int[] {-1, 3, 4, 29, 30, 31, LEAST, MOST}) {
            Twins.nothingChanges("41: trace(" + i + ")", Twins::rich, x -> x.trace(i), NONE);
        }
        int[] due = {13, 11, 10};
        for (int i = 0; i < 3; i++) {
            int at = i;
            Twins.nothingChanges("41: trace(" + i + ")", Twins::rich, x -> x.trace(at), due[i]);
        }
        Twins.nothingChanges("41: none at first", HatFields::new, x -> x.trace(0), NONE);
        // The longest of all traces.
        int[] longest = {31, 13, 41, 11, 40, 30, 10, 40, 30, 10, 12};
        HatFields x = onShelf(0, 4, 5);
        x.act(3, 3, 1);
        Check.due("42: bodies", x.many(5), longest.length);
        for (int i = 0; i < longest.length; i++) {
            Check.due("41: trace(" + i + ")", x.trace(i), longest[i]);
        }
        Check.due("41: behind the last", x.trace(longest.length), NONE);
        x.act(3, 2, 1);
        Check.due("41: the latest act alone", x.many(5), 1);
        Check.due("41: behind its last", x.trace(1), NONE);
    }

    private static void many() {
        int[] rich = {3, 5, 29, 3, 16, 3, 1};
        int[] full = {5, 6, 29, 3, 200, 3, 1};
        for (int what = 0; what < 7; what++) {
            Check.due("42: many(" + what + ")", Twins.rich().many(what), rich[what]);
            Check.due("42: many(" + what + ") of a full one", Twins.full().many(what), full[what]);
            Check.due("42: many(" + what + ") of a new one", new HatFields().many(what), 0);
        }
        HatFields x = Check.told("hat 0 worth 1 on 4;".repeat(6) + "wind 0 east 3;");
        Check.due("42: none gone", x.many(6), 0);
        x.hours(1);
        Check.due("42: all gone", x.many(6), 6);
        for (int h = 0; h < 6; h++) {
            x.found(h, h);
            Check.due("42: found one by one", x.many(6), 5 - h);
        }
    }

    private static void manyChangesNothing() {
        int[] due = {3, 5, 29, 3, 16, 3, 1};
        for (int what = 0; what < 7; what++) {
            int asked = what;
            Twins.nothingChanges("42: many(" + what + ")", Twins::rich, x -> x.many(asked), due[what]);
        }
        for (int what : new int[] {-1, 7, LEAST, MOST}) {
            Twins.nothingChanges("42: many(" + what + ")", Twins::rich, x -> x.many(what), BAD);
        }
    }
}
