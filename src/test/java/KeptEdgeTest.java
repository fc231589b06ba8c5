import java.util.LinkedHashMap;
import java.util.Map;

/** The edges of promises 43 and 44: nothing kept, an empty and a full plain kept, all that is kept and all that isn't. */
public final class KeptEdgeTest {
    public static void main(String[] args) {
        nothingKept();
        keepChangesNothing();
        emptyKept();
        fullKept();
        everyPartKept();
        restNotKept();
        latestStays();
        copiesNotShared();
        Check.finish();
    }

    private static Map<String, Integer> plainOf(HatFields x) {
        Map<String, Integer> seen = new LinkedHashMap<>();
        Twins.lookAtPlain(seen, x);
        return seen;
    }

    private static void nothingKept() {
        Twins.nothingChanges("44: nothing is kept", HatFields::new, x -> x.again(), HatFields.NONE);
        Twins.Made told = () -> {
            HatFields x = Check.told("person 3;hat 0 worth 1 of 0;now 7;");
            x.seed(9);
            x.prove(2);
            x.sheet(0, 0, 2);
            x.shelf(0, 0, 0);
            x.act(0, 0, 1);
            Check.feed(x, "now 8;");
            return x;
        };
        Twins.nothingChanges("44: nothing is kept", told, x -> x.again(), HatFields.NONE);
    }

    private static void keepChangesNothing() {
        HatFields x = Twins.rich();
        Check.due("43: keep()", x.keep(), 1);
        Twins.sameLook("43: keep() changes nothing else", Twins.look(Twins.rich()), Twins.look(x));
        HatFields y = Twins.rich();
        y.keep();
        Check.due("44: again() at once", y.again(), 29);
        Twins.sameLook("44: again() at once changes nothing", Twins.look(Twins.rich()), Twins.look(y));
    }

    private static void emptyKept() {
        HatFields x = new HatFields();
        Check.due("43: keep() of a new object", x.keep(), 1);
        x.person(3, 3);
        x.hat(3, 3, 3, 3);
        x.wind(3, 3, 3);
        x.clock(33);
        x.seed(3);
        Check.due("44: again()", x.again(), 0);
        Twins.sameLook("44: as new", Twins.look(new HatFields()), Twins.look(x));
        Check.due("44: the first PERSON again", x.person(0, 0), 0);
        Check.due("44: the first HAT again", x.hat(0, 0, 0, 0), 0);
    }

    private static void fullKept() {
        HatFields x = Twins.full();
        x.clock(96);
        x.keep();
        x.plain();
        Check.due("44: people by the text", x.many(0), 1);
        Check.due("44: again()", x.again(), 96);
        HatFields due = Twins.full();
        due.clock(96);
        Twins.sameLook("44: the full plain", plainOf(due), plainOf(x));
        Check.due("44: a sixth", x.person(0, 0), HatFields.FULL);
        Check.due("44: a seventh", x.hat(0, 0, 0, 0), HatFields.FULL);
    }

    /** Each call that changes a part of the plain: again() takes it back. */
    private static void everyPartKept() {
        Twins.Call[] calls = {x -> x.wind(5, 0, 9), x -> x.person(0, 0), x -> x.moves(0, 3), x -> x.speed(0, 3),
            x -> x.hat(0, 0, 0, 0), x -> x.make(1, 5, 0), x -> x.puts(4, 0), x -> x.down(1), x -> x.found(0, 0), x -> x.bow(0, 1),
            x -> x.hours(48), x -> x.clock(0), x -> x.seed(5), x -> x.draw(3), x -> x.winds(0, 2, 3, 1), x -> x.plain()};
        for (int i = 0; i < calls.length; i++) {
            HatFields x = Twins.rich();
            x.keep();
            Map<String, Integer> before = plainOf(x);
            int answer = calls[i].on(x);
            Check.due("44: call " + i + " isn't refused", answer >= 0 ? 1 : 0, 1);
            Check.due("44: call " + i + " changes something", plainOf(x).equals(before) ? 1 : 0, 0);
            Check.due("44: again() behind call " + i, x.again(), 29);
            Twins.sameLook("44: again() behind call " + i, before, plainOf(x));
        }
    }

    /** All but THE TAPE, ROWS, SHEETS, SHELVES, THE TRACE. */
    private static void restNotKept() {
        HatFields x = keptAndChanged();
        x.again();
        Twins.sameLook("44: what isn't kept stays as it is", Twins.look(keptAndChanged()), Twins.look(x));
        HatFields empty = Twins.rich();
        empty.keep();
        empty.plain();
        empty.again();
        Check.due("44: the tape that was used up stays so", empty.many(4), 0);
        Check.due("44: there are no ROWS still", empty.many(3), 0);
        Check.due("44: the trace stays", empty.many(5), 3);
    }

    private static HatFields keptAndChanged() {
        HatFields x = Twins.rich();
        x.keep();
        x.prove(1);
        x.feed(' ', 1);
        x.sheet(0, 2, 1);
        x.put(1, 0, 8);
        x.shelf(0, 2, 0);
        x.shelf(3, 0, 4);
        x.act(2, 2, 5);
        return x;
    }

    private static void latestStays() {
        HatFields x = new HatFields();
        for (int v = 0; v <= 96; v++) {
            x.clock(v);
            x.keep();
        }
        x.clock(3);
        for (int i = 0; i < 5; i++) {
            Check.due("44: the latest, which stays", x.again(), 96);
            x.clock(i);
            x.seed(i);
        }
        Check.due("44: z of the latest", x.again(), 96);
        Check.due("44: z of the latest", x.seed(0), 1);
    }

    /** What is kept is a plain of its own: hours that go behind keep() or again() don't touch it. */
    private static void copiesNotShared() {
        HatFields x = Check.told("person 0 speed 1;hat 0 worth 9 on 4;wind 2 east 3;");
        x.keep();
        for (int i = 0; i < 3; i++) {
            Check.due("44: hours go", x.hours(4), 4);
            Check.due("44: the hat is gone", x.hatOf(0, 4), -9);
            Check.due("44: again()", x.again(), 0);
            Check.due("44: the hat lies", x.hatOf(0, 4), 4);
            Check.due("44: the person stands", x.personOf(0, 0), 0);
            x.wind(2, 1, 9);
            x.make(0, 2, 2);
            x.again();
            Check.due("44: its wind", x.windOf(2), 13);
            Check.due("44: its kind", x.hatOf(0, 0), 0);
        }
    }
}
