import java.util.Map;

/** The edges of promise 3: numbers and names at their ends, texts cut short, full plains, every byte, what a text changes. */
public final class TextEdgeTest {
    private static final String FIVE_PEOPLE = "person 1;".repeat(5);
    private static final String SIX_HATS = "hat 0 worth 0 on 0;".repeat(6);

    public static void main(String[] args) {
        numbersOfPerson();
        numbersOfHat();
        numbersOfWindAndNow();
        digits();
        wearersToldAhead();
        names();
        cutShort();
        empty();
        fullPlain();
        fullTape();
        bytesAheadOfText();
        bytesBehindNumber();
        bytesInName();
        blanks();
        firstFaultCounts();
        byItAlone();
        faultChangesNothing();
        usedUp();
        Check.finish();
    }

    private static int answer(String text) {
        return Check.tell(new HatFields(), text);
    }

    private static void right(String text, int hats) {
        Check.due("3: plain() of '" + text + "'", answer(text), hats);
    }

    /** The text up to the sign | is what comes ahead of the fault. */
    private static void fault(String text) {
        int at = text.indexOf('|');
        Check.due("3: plain() of '" + text + "'", answer(text.substring(0, at) + text.substring(at + 1)), -100 - at);
    }

    // ---- a NUMBER out of range

    private static void numbersOfPerson() {
        for (int place = 0; place < 25; place++) {
            HatFields x = Check.told("person " + place + ";");
            Check.due("3: PLACE", x.personOf(0, 0), place);
            Check.due("3: SPEED if not told", x.personOf(0, 1), 1);
        }
        for (int place = 25; place < 100; place++) {
            fault("person |" + place + ";");
        }
        for (int speed = 0; speed < 4; speed++) {
            Check.due("3: SPEED", Check.told("person 7 speed " + speed + ";").personOf(0, 1), speed);
        }
        for (int speed = 4; speed < 100; speed++) {
            fault("person 7 speed |" + speed + ";");
        }
    }

    private static void numbersOfHat() {
        for (int v = 0; v < 100; v++) {
            Check.due("3: WORTH", Check.told("hat 0 worth " + v + " on 0;").hatOf(0, 2), v);
            if (v < 10) {
                Check.due("3: A", Check.told("hat " + v + " worth 5 on 0;").hatOf(0, 1), v);
            } else {
                fault("hat |" + v + " worth 5 on 0;");
            }
            if (v < 25) {
                HatFields x = Check.told("hat 0 worth 5 on " + v + ";");
                Check.due("3: the PLACE in which it lies", x.hatOf(0, 4), v);
                Check.due("3: nobody wears it", x.hatOf(0, 3), -9);
            } else {
                fault("hat 0 worth 5 on |" + v + ";");
            }
        }
        fault("hat 0 worth |100 on 0;");
    }

    private static void numbersOfWindAndNow() {
        String[] names = {"north", "east", "south", "west"};
        for (int v = 0; v < 100; v++) {
            if (v < 24) {
                Check.due("3: HOUR", Check.told("wind " + v + " west 9;").windOf(v), 39);
            } else {
                fault("wind |" + v + " west 9;");
            }
            for (int direction = 0; direction < 4; direction++) {
                if (v < 10) {
                    Check.due("3: WIND", Check.told("wind 7 " + names[direction] + " " + v + ";").windOf(7), 10 * direction + v);
                } else {
                    fault("wind 7 " + names[direction] + " |" + v + ";");
                }
            }
            if (v < 97) {
                Check.due("3: NOW", Check.told("now " + v + ";").many(2), v);
            } else {
                fault("now |" + v + ";");
            }
        }
        Check.due("3: the later NOW counts", Check.told("now 96;now 0;").many(2), 0);
        Check.due("3: the later WIND counts", Check.told("wind 0 west 9;wind 0 north 0;").windOf(0), 0);
    }

    /** NUMBERS are rows of digits (1 or 2), as long as they go. */
    private static void digits() {
        HatFields x = Check.told("person 00 speed 03;hat 09 worth 00 of 00;wind 00 north 09;now 00;");
        Check.due("3: two digits for SPEED", x.personOf(0, 1), 3);
        Check.due("3: two digits for A", x.hatOf(0, 1), 9);
        Check.due("3: two digits for who wears it", x.hatOf(0, 3), 0);
        Check.due("3: two digits for FORCE", x.windOf(0), 9);
        fault("person |001;");
        fault("person 1 speed |001;");
        fault("hat |000 worth 1 on 1;");
        fault("hat 0 worth |001 on 1;");
        fault("hat 0 worth 1 on |001;");
        fault("person 1;hat 0 worth 1 of |000;");
        fault("wind |000 east 1;");
        fault("wind 0 east |001;");
        fault("now |001;");
        fault("now |4294967297;");
        fault("now |18446744073709551617;");
        fault("now |" + "0".repeat(190) + ";");
        fault("now |-1;");
        fault("now |+1;");
        fault("now 1|.0;");
        fault("now 1 |1;");
    }

    /** of: who wears it (told ahead). */
    private static void wearersToldAhead() {
        for (int people = 0; people <= 5; people++) {
            String told = "person 3;".repeat(people);
            for (int wearer = 0; wearer < people; wearer++) {
                HatFields x = Check.told(told + "felt 0 worth 1 of " + wearer + ";");
                Check.due("3: who wears it", x.hatOf(0, 3), wearer);
                Check.due("3: where, worn", x.hatOf(0, 4), 3);
            }
            fault(told + "felt 0 worth 1 of |" + people + ";");
            if (people < 5) {
                fault(told + "felt 0 worth 1 of |" + people + ";person 3;");
            }
        }
        fault(FIVE_PEOPLE + "felt 0 worth 1 of |5;");
        fault(FIVE_PEOPLE + "felt 0 worth 1 of |99;");
    }

    private static void names() {
        String[] kinds = {"hat", "pinned", "straw", "tied", "feathered", "felt"};
        for (int kind = 0; kind < 6; kind++) {
            Check.due("3: " + kinds[kind], Check.told(kinds[kind] + " 0 worth 1 on 0;").hatOf(0, 0), kind);
        }
        String[] first = {"hat", "pinned", "straw", "tied", "feathered", "felt", "person", "wind", "now"};
        for (String name : first) {
            wrongNames("", name, "");
        }
        wrongNames("person 1 ", "speed", " 1;");
        wrongNames("hat 1 ", "worth", " 1 on 1;");
        wrongNames("hat 1 worth 1 ", "on", " 1;");
        wrongNames("person 1;hat 1 worth 1 ", "of", " 0;");
        for (String name : new String[] {"north", "east", "south", "west"}) {
            wrongNames("wind 1 ", name, " 1;");
        }
        String[] elsewhere = {"speed", "worth", "on", "of", "north", "east", "south", "west"};
        for (String name : elsewhere) {
            fault("|" + name);
            fault("now 1;|" + name + " 1;");
        }
        fault("person 1 |worth 1;");
        fault("hat 1 |speed 1 on 1;");
        fault("hat 1 |on 1;");
        fault("hat 1 worth 1 |north 1;");
        fault("wind 1 |hat 1;");
        fault("person |person 1;");
        fault("now |now 1;");
        missingNames();
    }

    /** What comes behind a name that is left out would be right behind it. */
    private static void missingNames() {
        fault("|1;");
        fault("person 1 |1;");
        fault("hat 1 |1 on 1;");
        fault("hat 1 |on 1;");
        fault("hat 1 worth 1 |1;");
        fault("hat 1 worth |on 1;");
        fault("person 1;hat 1 worth 1 |0;");
        fault("wind 1 |1;");
        fault("wind |east 1;");
        fault("wind 1 east|;");
    }

    /** A name is refused that is one letter shorter, longer, another, or has a great letter. */
    private static void wrongNames(String ahead, String name, String behind) {
        for (int i = 0; i < name.length(); i++) {
            char other = name.charAt(i) == 'z' ? 'a' : (char) (name.charAt(i) + 1);
            fault(ahead + "|" + name.substring(0, i) + other + name.substring(i + 1) + behind);
            fault(ahead + "|" + name.substring(0, i) + Character.toUpperCase(name.charAt(i)) + name.substring(i + 1) + behind);
        }
        fault(ahead + "|" + name.substring(1) + behind);
        fault(ahead + "|" + name.substring(0, name.length() - 1) + behind);
        fault(ahead + "|" + name + name.charAt(name.length() - 1) + behind);
        fault(ahead + "|a" + name + behind);
        fault(ahead + "|" + name + "z" + behind);
    }

    // ---- the end, if more must come

    private static void cutShort() {
        cut("person 12 speed 03 ;", "person", "speed");
        cut("person 4;", "person");
        cut("hat 9 worth 99 on 24 ;", "hat", "worth", "on");
        cut("feathered 0 worth 0 on 0;", "feathered", "worth", "on");
        cut("wind 23 south 9 ;", "wind", "south");
        cut("now 96  ;", "now");
        String hat = "person 0;hat 1 worth 2 of 0";
        fault(hat + "|");
        fault(hat.substring(0, hat.length() - 1) + "|");
        fault(hat + "   |");
    }

    /** A cut within a name is a fault at its first letter; elsewhere more must come. */
    private static void cut(String text, String... names) {
        for (int length = 1; length < text.length(); length++) {
            int due = length;
            for (String name : names) {
                int begin = text.indexOf(name);
                if (length > begin && length < begin + name.length()) {
                    due = begin;
                }
            }
            Check.due("3: plain() of '" + text.substring(0, length) + "'", answer(text.substring(0, length)), -100 - due);
        }
        Check.due("3: plain() of '" + text + "'", answer(text) >= 0 ? 1 : 0, 1);
    }

    private static void empty() {
        right("", 0);
        right(" ", 0);
        right(" ".repeat(200), 0);
        fault("|;");
        fault("  |;");
        fault("now 1;|;");
        fault("now 1; |;");
        fault("now|;");
        fault("now |;");
    }

    // ---- the first NAME of a sixth PERSON, a seventh HAT

    private static void fullPlain() {
        right(FIVE_PEOPLE, 0);
        right(SIX_HATS, 6);
        right(FIVE_PEOPLE + SIX_HATS + "now 9;", 6);
        right(SIX_HATS + FIVE_PEOPLE + "wind 1 east 1;", 6);
        fault(FIVE_PEOPLE + "|person 1;");
        fault(FIVE_PEOPLE + "   |person 1;");
        fault(FIVE_PEOPLE + "|person");
        fault(FIVE_PEOPLE + "|person 99;");
        fault(FIVE_PEOPLE + SIX_HATS + "|person 1;");
        for (String kind : new String[] {"hat", "pinned", "straw", "tied", "feathered", "felt"}) {
            fault(SIX_HATS + "  |" + kind + " 0 worth 0 on 0;");
            fault(SIX_HATS + "|" + kind);
            fault(SIX_HATS + FIVE_PEOPLE + "|" + kind + " 10 worth;");
        }
        HatFields x = Twins.full();
        x.plain();
        Check.due("3: a full plain becomes another full one", Check.tell(x, FIVE_PEOPLE + SIX_HATS), 6);
        Check.due("3: PEOPLE", x.many(0), 5);
    }

    private static void fullTape() {
        String blanks = " ".repeat(193);
        right("now 12;" + blanks, 0);
        right(blanks + "now 12;", 0);
        Check.due("3: NOW of the last bytes", Check.told(blanks + "now 12;").many(2), 12);
        fault(blanks + "now 12 |");
        fault("now 12" + " ".repeat(194) + "|");
        fault(" ".repeat(199) + "|;");
        fault(" ".repeat(199) + "|n");
        fault("|" + "n".repeat(200));
        fault(" ".repeat(197) + "now|");
        fault(" ".repeat(196) + "now|;");
        Check.due("3: 33 now", answer("now 1;".repeat(33) + "  "), 0);
    }

    // ---- NAMES a to z, NUMBERS, blanks (32), other bytes

    private static void bytesAheadOfText() {
        for (int b = 0; b < 256; b++) {
            int due = b == ' ' ? 0 : -100;
            Check.due("3: the byte " + b + " ahead", answer((char) b + "now 1;"), due);
        }
    }

    private static void bytesBehindNumber() {
        for (int b = 0; b < 256; b++) {
            boolean digit = b >= '0' && b <= '9';
            int due = b == ' ' || digit ? 0 : b == ';' ? -106 : -105;
            Check.due("3: the byte " + b + " behind a number", answer("now 1" + (char) b + ";"), due);
        }
        for (int digit = 0; digit < 10; digit++) {
            Check.due("3: the digit " + digit, Check.told("now " + digit + ";").many(2), digit);
            Check.due("3: the digit " + digit, Check.told("now 1" + digit + ";").many(2), 10 + digit);
        }
    }

    private static void bytesInName() {
        for (int b = 0; b < 256; b++) {
            boolean digit = b >= '0' && b <= '9';
            boolean letter = b >= 'a' && b <= 'z';
            Check.due("3: the byte " + b + " in a name", answer("n" + (char) b + "w 1;"), b == 'o' ? 0 : -100);
            int due = b == ' ' ? 0 : letter ? -100 : digit ? -105 : -103;
            Check.due("3: the byte " + b + " behind a name", answer("now" + (char) b + " 1;"), due);
            due = b == ' ' ? 0 : -106;
            Check.due("3: the byte " + b + " behind a line", answer("now 1;" + (char) b), due);
        }
    }

    private static void blanks() {
        right("  person  1  speed  2  ;  hat  1  worth  2  of  0  ;  wind  3  east  4  ;  now  5  ;  ", 1);
        right("person 1 speed 2;hat 1 worth 2 of 0;wind 3 east 4;now 5;", 1);
        right("person1speed2;hat1worth2of0;wind3east4;now5;", 1);
        fault("|per son 1;");
        fault("hat 1 |wor th 1 on 1;");
        fault("wind 1 |ea st 1;");
        fault("now 1 |2;");
        fault("|personspeed 1;");
        fault("hat 1 worth 1 |onof 1;");
    }

    private static void firstFaultCounts() {
        fault("person |25 speed 9,");
        fault("hat |10 wort 100 in 25,");
        fault("hat 1 |wort 100 in 25,");
        fault("hat 1 worth |100 in 25,");
        fault("hat 1 worth 1 |in 25,");
        fault("hat 1 worth 1 on |25,");
        fault("hat 1 worth 1 of |0,");
        fault("wind |24 up 10,");
        fault("wind 1 |up 10,");
        fault("wind 1 east |10,");
        fault("now |97,");
        fault("now 9|,;");
        fault("now 9;|what;ever");
        fault("person |speed 1;");
        fault("hat 1 worth 1 of 0 |;".replace("of 0 |", "of |0 "));
    }

    // ---- what a text changes

    /** It is THE PLAIN by it alone (no WIND, NOW 0, if not told); z stays. There are no ROWS then. */
    private static void byItAlone() {
        String text = "person 3 speed 2;person 4;felt 1 worth 2 of 1;";
        HatFields alone = Check.told(text);
        HatFields x = Twins.full();
        x.plain();
        Check.due("3: plain()", Check.tell(x, text), 1);
        Map<String, Integer> due = Twins.look(alone);
        Map<String, Integer> got = Twins.look(x);
        for (Map.Entry<String, Integer> seen : due.entrySet()) {
            String call = seen.getKey();
            if (call.startsWith("windOf") || call.startsWith("personOf") || call.startsWith("hatOf") || call.startsWith("row")) {
                Check.due("3: by it alone: " + call, got.get(call), seen.getValue());
            }
        }
        int[] many = {2, 1, 0, 0, 0, 3, 0};
        for (int what = 0; what < 7; what++) {
            Check.due("3: many(" + what + ")", got.get("many(" + what + ")"), many[what]);
        }
        Check.due("3: z stays", got.get("z"), 77);
        for (int hour = 0; hour < 24; hour++) {
            Check.due("3: no WIND, if not told: " + hour, got.get("windOf(" + hour + ")"), 0);
        }
        restStays();
    }

    private static void restStays() {
        HatFields x = Twins.rich();
        Map<String, Integer> before = Twins.look(Twins.rich());
        Check.due("3: plain() of the text that was fed", x.plain(), 0);
        Map<String, Integer> got = Twins.look(x);
        for (String call : before.keySet()) {
            if (call.startsWith("item") || call.startsWith("trace") || call.startsWith("taken(1") || call.equals("z")) {
                Check.due("3: it stays: " + call, got.get(call), before.get(call));
            }
            if (call.startsWith("row")) {
                Check.due("3: there are no ROWS then: " + call, got.get(call), -9);
            }
        }
        Check.due("3: a shelf's hat is no more", x.taken(0, 0), -11);
        Check.due("3: what was kept stays", x.again(), 1);
        Check.due("3: and its hat is on the shelf", x.taken(2, 4), 0);
        x.prove(2);
        Check.due("3: plain() of an empty tape", x.plain(), 0);
        Check.due("3: there are no ROWS then", x.many(3), 0);
        Check.due("3: nor people", x.many(0), 0);
    }

    /** A fault changes nothing but that THE TAPE is used up. */
    private static void faultChangesNothing() {
        String[] faulty = {"?", "person 25;", "person 1;hat 0 worth 1 of 0;now 3;?", "wind 5 south 8;wind 0 east 9", "now 9;now"};
        for (String text : faulty) {
            HatFields x = usedUpRich();
            int fault = Check.tell(x, text);
            Check.due("3: '" + text + "' has a fault", fault <= -100 ? 1 : 0, 1);
            Twins.sameLook("3: the fault of '" + text + "' changes nothing", Twins.look(usedUpRich()), Twins.look(x));
        }
        Twins.Made made = () -> {
            HatFields x = Twins.rich();
            Check.feed(x, " now 97;");
            return x;
        };
        Twins.justThisChanges("3: a fault uses up the tape alone", made, x -> x.plain(), -100 - 21, "many(4)=0");
    }

    /** As Twins.rich(), but with an empty tape; so its plain is the one that was kept. */
    private static HatFields usedUpRich() {
        HatFields x = Twins.rich();
        x.plain();
        x.again();
        x.prove(2);
        return x;
    }

    private static void usedUp() {
        HatFields x = Check.told("now 5;");
        Check.due("3: used up by a plain", x.many(4), 0);
        Check.feed(x, "now 5");
        Check.due("3: a fault", x.plain(), -105);
        Check.due("3: used up by a fault", x.many(4), 0);
        Check.feed(x, ";");
        Check.due("3: what was there ahead of the fault is gone", x.plain(), -100);
        Check.due("3: feed counts from 0", x.feed(32, 1), 1);
        Check.due("3: NOW as before the faults", x.many(2), 5);
        Check.feed(x, " ".repeat(199));
        Check.due("3: a full tape", x.many(4), 200);
        x.plain();
        Check.due("3: room again", x.feed(32, 8), 8);
    }
}
