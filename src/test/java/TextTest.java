/** Promise 3: the text of a plain, and its faults. */
public final class TextTest {
    public static void main(String[] args) {
        whole();
        byItAlone();
        blanks();
        sizes();
        faults();
        faultChangesNothing();
        Check.finish();
    }

    private static void whole() {
        HatFields x = new HatFields();
        Check.due("3: plain()", Check.tell(x, "person 12 speed 2;person 0;hat 3 worth 40 of 0;pinned 5 worth 99 on 24;straw 0 worth 0 on 0;"
            + "tied 8 worth 1 of 1;feathered 9 worth 2 on 1;felt 1 worth 3 on 2;wind 5 east 4;now 96;"), 6);
        int[][] hats = {{0, 3, 40, 0, 12}, {1, 5, 99, -9, 24}, {2, 0, 0, -9, 0}, {3, 8, 1, 1, 0}, {4, 9, 2, -9, 1}, {5, 1, 3, -9, 2}};
        for (int h = 0; h < 6; h++) {
            for (int what = 0; what < 5; what++) {
                Check.due("3: hatOf(" + h + ", " + what + ")", x.hatOf(h, what), hats[h][what]);
            }
        }
        Check.due("3: people", x.many(0), 2);
        Check.due("3: speed told", x.personOf(0, 1), 2);
        Check.due("3: speed not told", x.personOf(1, 1), 1);
        Check.due("3: wind", x.windOf(5), 14);
        Check.due("3: now", x.many(2), 96);
        x = new HatFields();
        Check.tell(x, "wind 0 north 1;wind 1 east 2;wind 2 south 3;wind 23 west 9;wind 1 west 0;");
        Check.due("3: north", x.windOf(0), 1);
        Check.due("3: the later wind counts", x.windOf(1), 30);
        Check.due("3: south", x.windOf(2), 23);
        Check.due("3: west", x.windOf(23), 39);
    }

    private static void byItAlone() {
        HatFields x = Check.told("person 12;hat 0 worth 1 of 0;wind 0 east 4;now 5;");
        x.seed(77);
        x.prove(3);
        x.keep();
        Check.due("3: plain() of nothing", x.plain(), 0);
        Check.due("3: people", x.many(0), 0);
        Check.due("3: hats", x.many(1), 0);
        Check.due("3: NOW", x.many(2), 0);
        Check.due("3: no ROWS", x.many(3), 0);
        Check.due("3: no row", x.row(0, 0), -9);
        Check.due("3: no WIND", x.windOf(0), 0);
        Check.due("3: z stays", x.seed(1), 77);
        Check.due("3: what was kept stays", x.again(), 5);
    }

    private static void blanks() {
        HatFields x = new HatFields();
        Check.due("3: blanks", Check.tell(x, "   person   3  speed 02 ;  hat 1 worth 07 of 0  ;now 3 ;  "), 1);
        Check.due("3: speed", x.personOf(0, 1), 2);
        Check.due("3: worth", x.hatOf(0, 2), 7);
        Check.due("3: now", x.many(2), 3);
        Check.due("3: signs end where their letters or digits end", Check.tell(x, "person3speed2;hat1worth7of0;"), 1);
        Check.due("3: place", x.personOf(0, 0), 3);
        Check.due("3: a parted name", Check.tell(x, "per son 3;"), -100);
        Check.due("3: a parted number", Check.tell(x, "person 1 2;"), -109);
        Check.due("3: another white byte", Check.tell(x, "person\t3;"), -106);
        Check.due("3: a blank text", Check.tell(x, "  "), 0);
    }

    private static void sizes() {
        HatFields x = new HatFields();
        Check.due("3: all at the top", Check.tell(x, "person 24 speed 3;hat 9 worth 99 on 24;wind 23 west 9;now 96;"), 1);
        Check.due("3: all at the bottom", Check.tell(x, "person 00 speed 0;hat 0 worth 0 of 0;wind 0 north 0;now 0;"), 1);
        String six = "hat 0 worth 0 on 0;hat 0 worth 0 on 0;hat 0 worth 0 on 0;hat 0 worth 0 on 0;hat 0 worth 0 on 0;hat 0 worth 0 on 0;";
        Check.due("3: six hats", Check.tell(x, six), 6);
        Check.due("3: a seventh hat", Check.tell(x, six + " felt"), -100 - six.length() - 1);
        String five = "person 1;person 1;person 1;person 1;person 1;";
        Check.due("3: five people", Check.tell(x, five), 0);
        Check.due("3: a sixth", Check.tell(x, five + "person"), -145);
    }

    private static void faults() {
        fault("person", 6);
        fault("person  ", 8);
        fault("person 1", 8);
        fault("person 1 ;;", 10);
        fault("person 25;", 7);
        fault("person 250;", 7);
        fault("person 000;", 7);
        fault("person;", 6);
        fault("person -1;", 7);
        fault("person 1 speed;", 14);
        fault("person 1 speed 4;", 15);
        fault("person 1 fast 1;", 9);
        fault("person 1 speed 1 speed 1;", 17);
        fault("Person 1;", 0);
        fault("persons 1;", 0);
        fault("perso", 0);
        fault("1;", 0);
        fault(";", 0);
        fault("person 1" + (char) 200 + ";", 8);
        fault("person 1" + (char) 0 + ";", 8);
        fault("hat", 3);
        fault("hat 10 worth 1 on 1;", 4);
        fault("hat 1 wort 1 on 1;", 6);
        fault("hat 1 worth 100 on 1;", 12);
        fault("hat 1 worth 1;", 13);
        fault("hat 1 worth 1 at 1;", 14);
        fault("hat 1 worth 1 on 25;", 17);
        fault("hat 1 worth 1 on;", 16);
        fault("hat 1 worth 1 of 0;person 1;", 17);
        fault("person 1;hat 1 worth 1 of 1;", 26);
        fault("hat 1 worth 1 on 1", 18);
        fault("hat 1 worth 1 on 1,", 18);
        fault("hut 1 worth 1 on 1;", 0);
        fault("bat 1 worth 1 on 1;", 0);
        fault("had 1 worth 1 on 1;", 0);
        fault("hatz 1 worth 1 on 1;", 0);
        fault("ahat 1 worth 1 on 1;", 0);
        fault("hat 1 worth 1 onz 1;", 14);
        fault("wind 1 rest 1;", 7);
        fault("wind 24 east 1;", 5);
        fault("wind 1 up 1;", 7);
        fault("wind 1 1;", 7);
        fault("wind 1 east 10;", 12);
        fault("wind 1 east;", 11);
        fault("wind 1 east 1", 13);
        fault("now 97;", 4);
        fault("now;", 3);
        fault("now 1 2;", 6);
        fault("now 1;x", 6);
        fault("speed 1;", 0);
        fault("north", 0);
    }

    private static void fault(String text, int at) {
        HatFields x = new HatFields();
        Check.due("3: plain() of '" + text + "'", Check.tell(x, text), -100 - at);
        Check.due("3: the tape is used up", x.many(4), 0);
        Check.due("3: no people", x.many(0), 0);
        Check.due("3: no hats", x.many(1), 0);
    }

    private static void faultChangesNothing() {
        HatFields x = Check.told("person 12;hat 0 worth 1 of 0;wind 0 east 2;now 5;");
        x.prove(3);
        Check.due("3: plain()", Check.tell(x, "person 1;person 2;felt 0 worth 5 on 3;wind 0 west 7;now 9;?"), -100 - 58);
        Check.due("3: people", x.many(0), 1);
        Check.due("3: hats", x.many(1), 1);
        Check.due("3: NOW", x.many(2), 5);
        Check.due("3: ROWS", x.many(3), 3);
        Check.due("3: WIND", x.windOf(0), 12);
        Check.due("3: PLACE", x.personOf(0, 0), 12);
        Check.due("3: who wears it", x.hatOf(0, 3), 0);
        Check.due("3: judge()", x.judge(), 0);
    }
}
