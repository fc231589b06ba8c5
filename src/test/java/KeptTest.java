/** Promises 43 and 44: keep and again. */
public final class KeptTest {
    public static void main(String[] args) {
        keptAndAgain();
        whatIsNotKept();
        Check.finish();
    }

    private static void keptAndAgain() {
        HatFields x = new HatFields();
        Check.due("44: nothing is kept", x.again(), HatFields.NONE);
        Check.tell(x, "person 12 speed 2;hat 3 worth 9 of 0;straw 1 worth 5 on 3;wind 4 west 7;now 4;");
        x.seed(99);
        Check.due("43: keep()", x.keep(), 1);
        x.hours(3);
        x.person(0, 0);
        x.hat(0, 0, 0, 0);
        x.make(0, 4, 8);
        x.speed(0, 0);
        x.wind(4, 0, 1);
        x.draw(7);
        Check.due("44: again()", x.again(), 4);
        Check.due("44: NOW", x.many(2), 4);
        Check.due("44: people", x.many(0), 1);
        Check.due("44: hats", x.many(1), 2);
        Check.due("44: PLACE", x.personOf(0, 0), 12);
        Check.due("44: SPEED", x.personOf(0, 1), 2);
        Check.due("44: HATS", x.personOf(0, 3), 1);
        int[][] hats = {{0, 3, 9, 0, 12}, {2, 1, 5, -9, 3}};
        for (int h = 0; h < 2; h++) {
            for (int what = 0; what < 5; what++) {
                Check.due("44: hatOf(" + h + ", " + what + ")", x.hatOf(h, what), hats[h][what]);
            }
        }
        Check.due("44: WIND", x.windOf(4), 37);
        Check.due("44: WIND", x.windOf(7), 0);
        Check.due("44: z", x.seed(3), 99);
        x.hours(9);
        x.plain();
        Check.due("44: it stays", x.again(), 4);
        Check.due("44: z once more", x.seed(3), 99);
        Check.due("44: hats once more", x.many(1), 2);
        x.clock(50);
        x.keep();
        x.clock(60);
        Check.due("44: the latest", x.again(), 50);
        Check.due("44: z of the latest", x.seed(0), 3);
    }

    private static void whatIsNotKept() {
        HatFields x = Check.told("person 12;hat 3 worth 9 of 0;hat 3 worth 9 of 0;");
        x.keep();
        Check.feed(x, "now 9;");
        x.prove(7);
        x.sheet(0, 0, 4);
        x.put(0, 1, 5);
        x.shelf(0, 0, 1);
        x.shelf(1, 1, 0);
        x.act(0, 1, 3);
        x.again();
        Check.due("44: THE TAPE", x.many(4), 6);
        Check.due("44: ROWS", x.many(3), 7);
        Check.due("44: SHEETS", x.item(0, 0, 1), 5);
        Check.due("44: SHELVES", x.taken(0, 0), 1);
        Check.due("44: SHELVES", x.taken(1, 10), 4);
        Check.due("44: THE TRACE", x.many(5), 2);
        Check.due("44: the tape's text", x.plain(), 0);
        Check.due("44: its NOW", x.many(2), 9);
        Check.due("44: no such hat", x.taken(0, 0), -11);
        x.again();
        Check.due("44: such a hat again", x.taken(0, 0), 1);
    }
}
