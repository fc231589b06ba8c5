import java.util.ArrayList;
import java.util.Arrays;
import java.util.List;
import java.util.Map;
import java.util.regex.Matcher;
import java.util.regex.Pattern;

/**
 * The document written a second time, without LANGUAGE.md's bounds: kinds as classes, points with x and y, copies
 * for every trial, a text cut by a pattern, refusals and faults thrown. ModelTest compares it with HatFields.
 */
final class Model {
    static final int BAD = -1, FULL = -2, NONE = -3, STATE = -4;

    static final class Refused extends RuntimeException {
        private static final long serialVersionUID = 1;
        final int answer;

        Refused(int answer) {
            this.answer = answer;
        }
    }

    record Wind(int direction, int force) {
        int told() {
            return 10 * direction + force;
        }
    }

    record Point(int x, int y) {
        static Point of(int place) {
            return new Point(place % 5, place / 5);
        }

        int place() {
            return 5 * y + x;
        }

        boolean onPlain() {
            return x >= 0 && x <= 4 && y >= 0 && y <= 4;
        }

        int to(Point other) {
            return Math.abs(x - other.x) + Math.abs(y - other.y);
        }

        Point stepTo(Point goal) {
            if (x != goal.x) {
                return new Point(x + Integer.signum(goal.x - x), y);
            }
            return new Point(x, y + Integer.signum(goal.y - y));
        }

        Point blown(int direction) {
            return switch (direction) {
                case 0 -> new Point(x, y - 1);
                case 1 -> new Point(x + 1, y);
                case 2 -> new Point(x, y + 1);
                default -> new Point(x - 1, y);
            };
        }
    }

    static final class Body {
        Point at;
        int speed;

        Body(Point at, int speed) {
            this.at = at;
            this.speed = speed;
        }
    }

    /** A kind's own rules and the bodies of its acts. */
    static class Plainest {
        int n;
        int a;
        List<Integer> trace;

        int holdsForce() {
            return 3;
        }

        int fliesIn(int force) {
            return force / 3;
        }

        int holds(int x) {
            trace.add(10);
            return x + n;
        }

        int flies(int x) {
            trace.add(11);
            return holds(x) * 2;
        }

        int shares(int x) {
            trace.add(12);
            if (a == n) {
                throw new Refused(-15);
            }
            return x / (a - n);
        }

        int tells(int x) {
            trace.add(13);
            return flies(x) ^ a;
        }
    }

    static class Pinned extends Plainest {
        @Override
        int holdsForce() {
            return super.holdsForce() + a / 2;
        }

        @Override
        int flies(int x) {
            trace.add(20);
            return super.flies(x) - a;
        }
    }

    static class Straw extends Plainest {
        @Override
        int holdsForce() {
            return super.holdsForce() - 2;
        }

        @Override
        int fliesIn(int force) {
            return force == 0 ? 0 : super.fliesIn(force) + 1;
        }

        @Override
        int holds(int x) {
            trace.add(30);
            return super.holds(x) * 3;
        }

        @Override
        int tells(int x) {
            trace.add(31);
            return super.tells(x) + shares(n);
        }
    }

    static final class Tied extends Pinned {
        @Override
        int holdsForce() {
            return 2 * super.holdsForce();
        }

        @Override
        int shares(int x) {
            trace.add(50);
            return super.shares(x + 2) ^ 1;
        }

        @Override
        int holds(int x) {
            trace.add(51);
            return super.holds(x) - n;
        }
    }

    static final class Feathered extends Straw {
        @Override
        int holdsForce() {
            return Math.max(0, a % 2 == 1 ? super.holdsForce() - 1 : super.holdsForce());
        }

        @Override
        int fliesIn(int force) {
            return 2 * super.fliesIn(force);
        }

        @Override
        int holds(int x) {
            trace.add(40);
            return 0 - super.holds(x);
        }

        @Override
        int flies(int x) {
            trace.add(41);
            return super.flies(x) + holds(n);
        }
    }

    static final class Felt extends Plainest {
        @Override
        int holdsForce() {
            return super.holdsForce() + 1;
        }

        @Override
        int fliesIn(int force) {
            return super.fliesIn(force) / 2;
        }

        @Override
        int tells(int x) {
            trace.add(60);
            return super.tells(x) * 2;
        }

        @Override
        int shares(int x) {
            trace.add(61);
            return super.shares(x) + holds(a);
        }
    }

    private static final List<Class<? extends Plainest>> CLASSES =
        List.of(Plainest.class, Pinned.class, Straw.class, Tied.class, Feathered.class, Felt.class);

    static Plainest thing(int kind, int n, int a, List<Integer> trace) {
        Plainest made = switch (kind) {
            case 0 -> new Plainest();
            case 1 -> new Pinned();
            case 2 -> new Straw();
            case 3 -> new Tied();
            case 4 -> new Feathered();
            default -> new Felt();
        };
        made.n = n;
        made.a = a;
        made.trace = trace;
        return made;
    }

    /** Worn if there is a wearer, else in a place if there is one, else gone. */
    static final class Cap {
        int kind;
        int a;
        int worth;
        Body wearer;
        Point at;

        Plainest thing() {
            return Model.thing(kind, 0, a, new ArrayList<>());
        }

        boolean lies() {
            return at != null;
        }

        boolean gone() {
            return at == null && wearer == null;
        }
    }

    static final class World {
        Wind[] winds = new Wind[24];
        int now;
        List<Body> people = new ArrayList<>();
        List<Cap> hats = new ArrayList<>();

        World() {
            Arrays.fill(winds, new Wind(0, 0));
        }

        World copy() {
            World w = new World();
            w.winds = winds.clone();
            w.now = now;
            for (Body b : people) {
                w.people.add(new Body(b.at, b.speed));
            }
            for (Cap c : hats) {
                Cap d = new Cap();
                d.kind = c.kind;
                d.a = c.a;
                d.worth = c.worth;
                d.at = c.at;
                d.wearer = c.wearer == null ? null : w.people.get(people.indexOf(c.wearer));
                w.hats.add(d);
            }
            return w;
        }

        World after(int n) {
            World w = copy();
            for (int i = 0; i < n; i++) {
                if (w.now < 96) {
                    w.goHour();
                }
            }
            return w;
        }

        void goHour() {
            Wind wind = winds[now % 24];
            for (Cap c : hats) {
                if (c.wearer != null && c.thing().holdsForce() < wind.force) {
                    c.at = c.wearer.at;
                    c.wearer = null;
                }
            }
            for (Cap c : hats) {
                if (c.lies()) {
                    Point p = c.at;
                    for (int i = c.thing().fliesIn(wind.force); i > 0; i--) {
                        p = p.blown(wind.direction);
                    }
                    c.at = p.onPlain() ? p : null;
                }
            }
            for (Body b : people) {
                run(b);
            }
            now++;
        }

        void run(Body b) {
            Cap goal = null;
            for (Cap c : hats) {
                if (c.lies() && (goal == null || c.at.to(b.at) < goal.at.to(b.at))) {
                    goal = c;
                }
            }
            if (goal == null) {
                return;
            }
            Point there = goal.at;
            for (int i = 0; i < b.speed; i++) {
                b.at = b.at.stepTo(there);
            }
            if (b.at.equals(there)) {
                for (Cap c : hats) {
                    if (there.equals(c.at)) {
                        c.at = null;
                        c.wearer = b;
                    }
                }
            }
        }

        int owned(int person) {
            return hats.stream().filter(c -> c.wearer == people.get(person)).mapToInt(c -> c.worth).sum();
        }

        int where(int hat) {
            Cap c = hats.get(hat);
            return c.wearer != null ? c.wearer.at.place() : c.lies() ? c.at.place() : -9;
        }

        int wearer(int hat) {
            Cap c = hats.get(hat);
            return c.wearer == null ? -9 : people.indexOf(c.wearer);
        }

        int set(java.util.function.Predicate<Cap> which) {
            int set = 0;
            for (int i = 0; i < hats.size(); i++) {
                set += which.test(hats.get(i)) ? 1 << i : 0;
            }
            return set;
        }

        int[] row() {
            return new int[] {now, set(c -> c.wearer != null), set(Cap::gone)};
        }
    }

    World world = new World();
    World kept;
    int z = 1;
    int keptZ;
    StringBuilder tape = new StringBuilder();
    List<int[]> rows = new ArrayList<>();
    /** byte[], short[], int[], long[] or null. */
    Object[] sheets = new Object[4];
    /** Integer (a hat's number), a sheet's row, or null. */
    Object[] shelves = new Object[4];
    List<Integer> trace = new ArrayList<>();

    private static void need(boolean right, int refusal) {
        if (!right) {
            throw new Refused(refusal);
        }
    }

    private static boolean in(int v, int from, int to) {
        return from <= v && v <= to;
    }

    private Body body(int person) {
        need(in(person, 0, world.people.size() - 1), BAD);
        return world.people.get(person);
    }

    private Cap cap(int hat) {
        need(in(hat, 0, world.hats.size() - 1), BAD);
        return world.hats.get(hat);
    }

    int feed(long eight, int n) {
        need(in(n, 1, 8), BAD);
        need(tape.length() + n <= 200, FULL);
        for (int i = 0; i < n; i++) {
            tape.append((char) (eight >> 8 * i & 255));
        }
        return tape.length();
    }

    int plain() {
        String text = tape.toString();
        tape.setLength(0);
        world = new Text(text).read();
        rows.clear();
        return world.hats.size();
    }

    /** A text's signs, and the plain that they tell. */
    static final class Text {
        private static final Pattern SIGN = Pattern.compile("[a-z]+|[0-9]+|[^ ]", Pattern.DOTALL);
        private static final Map<String, Integer> KINDS =
            Map.of("hat", 0, "pinned", 1, "straw", 2, "tied", 3, "feathered", 4, "felt", 5);
        private static final Map<String, Integer> DIRECTIONS = Map.of("north", 0, "east", 1, "south", 2, "west", 3);

        final List<String> signs = new ArrayList<>();
        final List<Integer> begins = new ArrayList<>();
        int at;
        World w = new World();

        Text(String text) {
            Matcher m = SIGN.matcher(text);
            while (m.find()) {
                signs.add(m.group());
                begins.add(m.start());
            }
            signs.add("");
            begins.add(text.length());
        }

        Refused fault() {
            return new Refused(-100 - begins.get(at));
        }

        String sign() {
            return signs.get(at);
        }

        void expect(String sign) {
            if (!sign().equals(sign)) {
                throw fault();
            }
            at++;
        }

        int number(int most) {
            if (!sign().matches("[0-9]{1,2}") || Integer.parseInt(sign()) > most) {
                throw fault();
            }
            return Integer.parseInt(signs.get(at++));
        }

        World read() {
            while (!sign().isEmpty()) {
                switch (sign()) {
                    case "person" -> readPerson();
                    case "wind" -> {
                        at++;
                        int hour = number(23);
                        Integer direction = DIRECTIONS.get(sign());
                        if (direction == null) {
                            throw fault();
                        }
                        at++;
                        w.winds[hour] = new Wind(direction, number(9));
                    }
                    case "now" -> {
                        at++;
                        w.now = number(96);
                    }
                    default -> readHat();
                }
                expect(";");
            }
            return w;
        }

        void readPerson() {
            if (w.people.size() == 5) {
                throw fault();
            }
            at++;
            Body b = new Body(Point.of(number(24)), 1);
            if (sign().equals("speed")) {
                at++;
                b.speed = number(3);
            }
            w.people.add(b);
        }

        void readHat() {
            Integer kind = KINDS.get(sign());
            if (kind == null || w.hats.size() == 6) {
                throw fault();
            }
            at++;
            Cap c = new Cap();
            c.kind = kind;
            c.a = number(9);
            expect("worth");
            c.worth = number(99);
            if (sign().equals("of")) {
                at++;
                c.wearer = w.people.get(number(w.people.size() - 1));
            } else {
                expect("on");
                c.at = Point.of(number(24));
            }
            w.hats.add(c);
        }
    }

    int wind(int hour, int direction, int force) {
        need(in(hour, 0, 23) && in(direction, 0, 3) && in(force, 0, 9), BAD);
        int was = world.winds[hour].told();
        world.winds[hour] = new Wind(direction, force);
        return was;
    }

    int windOf(int hour) {
        need(in(hour, 0, 23), BAD);
        return world.winds[hour].told();
    }

    int person(int place, int speed) {
        need(in(place, 0, 24) && in(speed, 0, 3), BAD);
        need(world.people.size() < 5, FULL);
        world.people.add(new Body(Point.of(place), speed));
        return world.people.size() - 1;
    }

    int personOf(int person, int what) {
        Body b = body(person);
        need(in(what, 0, 3), BAD);
        return what == 0 ? b.at.place() : what == 1 ? b.speed : what == 2 ? world.owned(person) : world.set(c -> c.wearer == b);
    }

    int moves(int person, int place) {
        Body b = body(person);
        need(in(place, 0, 24), BAD);
        int was = b.at.place();
        b.at = Point.of(place);
        return was;
    }

    int speed(int person, int v) {
        Body b = body(person);
        need(in(v, 0, 3), BAD);
        int was = b.speed;
        b.speed = v;
        return was;
    }

    int hat(int kind, int a, int worth, int place) {
        need(in(kind, 0, 5) && in(a, 0, 9) && in(worth, 0, 99) && in(place, 0, 24), BAD);
        need(world.hats.size() < 6, FULL);
        Cap c = new Cap();
        c.kind = kind;
        c.a = a;
        c.worth = worth;
        c.at = Point.of(place);
        world.hats.add(c);
        return world.hats.size() - 1;
    }

    int hatOf(int hat, int what) {
        Cap c = cap(hat);
        return switch (what) {
            case 0 -> c.kind;
            case 1 -> c.a;
            case 2 -> c.worth;
            case 3 -> world.wearer(hat);
            case 4 -> world.where(hat);
            case 5 -> c.thing().holdsForce();
            case 6 -> c.thing().fliesIn(world.winds[world.now % 24].force);
            default -> BAD;
        };
    }

    int make(int hat, int kind, int a) {
        Cap c = cap(hat);
        need(in(kind, 0, 5) && in(a, 0, 9), BAD);
        int was = c.kind;
        c.kind = kind;
        c.a = a;
        return was;
    }

    int puts(int hat, int person) {
        Cap c = cap(hat);
        Body b = body(person);
        need(b.at.equals(c.at), STATE);
        c.at = null;
        c.wearer = b;
        return 1;
    }

    int down(int hat) {
        Cap c = cap(hat);
        need(c.wearer != null, STATE);
        c.at = c.wearer.at;
        c.wearer = null;
        return c.at.place();
    }

    int found(int hat, int place) {
        Cap c = cap(hat);
        need(in(place, 0, 24), BAD);
        need(c.gone(), STATE);
        c.at = Point.of(place);
        return 1;
    }

    int bow(int a, int b) {
        Body one = body(a);
        Body other = body(b);
        need(a != b, BAD);
        need(one.at.equals(other.at), STATE);
        List<Cap> ones = world.hats.stream().filter(c -> c.wearer == one).toList();
        List<Cap> others = world.hats.stream().filter(c -> c.wearer == other).toList();
        ones.forEach(c -> c.wearer = other);
        others.forEach(c -> c.wearer = one);
        return ones.size() + others.size();
    }

    int hours(int n) {
        need(in(n, 0, 48), BAD);
        world = world.after(n);
        return world.now;
    }

    int clock(int v) {
        need(in(v, 0, 96), BAD);
        int was = world.now;
        world.now = v;
        return was;
    }

    int owns(int person, int n) {
        body(person);
        need(in(n, 0, 48), BAD);
        return world.after(n).owned(person);
    }

    int where(int hat, int n) {
        cap(hat);
        need(in(n, 0, 48), BAD);
        return world.after(n).where(hat);
    }

    int wears(int hat, int n) {
        cap(hat);
        need(in(n, 0, 48), BAD);
        return world.after(n).wearer(hat);
    }

    int lost(int hat) {
        cap(hat);
        for (int n = 0; n <= 48; n++) {
            if (world.after(n).where(hat) == -9) {
                return n;
            }
        }
        return NONE;
    }

    int master(int n) {
        need(in(n, 0, 48), BAD);
        need(!world.people.isEmpty(), NONE);
        World w = world.after(n);
        int best = world.people.size() - 1;
        for (int p = best; p >= 0; p--) {
            best = w.owned(p) >= w.owned(best) ? p : best;
        }
        return best;
    }

    interface Change {
        void to(World w, int choice);
    }

    /** From the highest choice down, so that of several the least stays. */
    private int best(int person, int n, int choices, Change change) {
        int best = 0;
        int most = -1;
        for (int choice = choices - 1; choice >= 0; choice--) {
            World w = world.copy();
            change.to(w, choice);
            int owned = w.after(n).owned(person);
            if (owned >= most) {
                most = owned;
                best = choice;
            }
        }
        return best;
    }

    int wish(int person, int n) {
        body(person);
        need(in(n, 1, 12), BAD);
        need(world.now < 96, STATE);
        return best(person, n, 40, (w, c) -> w.winds[w.now % 24] = new Wind(c / 10, c % 10));
    }

    int start(int person, int n) {
        body(person);
        need(in(n, 1, 12), BAD);
        return best(person, n, 25, (w, c) -> w.people.get(person).at = Point.of(c));
    }

    int tie(int person, int n) {
        body(person);
        need(in(n, 1, 12), BAD);
        need(!world.hats.isEmpty(), NONE);
        return best(person, n, world.hats.size(), (w, c) -> {
            w.hats.get(c).kind = 3;
            w.hats.get(c).a = 9;
        });
    }

    int calm() {
        World w = world.copy();
        Arrays.fill(w.winds, new Wind(0, 0));
        w.now = 0;
        for (int n = 0; n <= 48; n++) {
            if (w.hats.stream().noneMatch(Cap::lies)) {
                return n;
            }
            w.goHour();
        }
        return NONE;
    }

    int seed(int v) {
        int was = z;
        z = v;
        return was;
    }

    int draw(int hour) {
        need(in(hour, 0, 23), BAD);
        z = (int) (z * 1103515245L + 12345);
        long unsigned = z & 0xffffffffL;
        world.winds[hour] = new Wind((int) (unsigned / 65536 % 4), (int) (unsigned / 1048576 % 10));
        return world.winds[hour].told();
    }

    int prove(int n) {
        need(in(n, 1, 20), BAD);
        rows.clear();
        for (int i = 1; i <= n && world.now + i <= 96; i++) {
            rows.add(world.after(i).row());
        }
        return rows.size();
    }

    int row(int i, int what) {
        return in(i, 0, rows.size() - 1) && in(what, 0, 2) ? rows.get(i)[what] : -9;
    }

    int alterRow(int i, int what, int v) {
        int was = row(i, what);
        if (in(i, 0, rows.size() - 1) && in(what, 0, 2)) {
            rows.get(i)[what] = v;
        }
        return was;
    }

    int judge() {
        for (int i = 0; i < rows.size(); i++) {
            if (world.now + i + 1 > 96 || !Arrays.equals(rows.get(i), world.after(i + 1).row())) {
                return i + 1;
            }
        }
        return 0;
    }

    int winds(int sheet, int i, int hour, int n) {
        need(in(sheet, 0, 3) && in(hour, 0, 23) && in(n, 0, 24) && hour + n <= 24, BAD);
        need(sheets[sheet] != null, -11);
        need(sheets[sheet] instanceof byte[], -13);
        byte[] bytes = (byte[]) sheets[sheet];
        need(i >= 0 && (long) i + n <= bytes.length, -12);
        for (int k = 0; k < n; k++) {
            int force = bytes[i + k] < 0 ? 0 : bytes[i + k] > 9 ? 9 : bytes[i + k];
            world.winds[hour + k] = new Wind(world.winds[hour + k].direction, force);
        }
        return n;
    }

    int sheet(int sheet, int sort, int n) {
        need(in(sheet, 0, 3) && in(sort, -1, 3) && (sort == -1 || n <= 40), BAD);
        need(sort == -1 || n >= 0, -14);
        sheets[sheet] = switch (sort) {
            case 0 -> new byte[n];
            case 1 -> new short[n];
            case 2 -> new int[n];
            case 3 -> new long[n];
            default -> null;
        };
        return 1;
    }

    private static int sort(Object row) {
        return row instanceof byte[] ? 0 : row instanceof short[] ? 1 : row instanceof int[] ? 2 : 3;
    }

    int put(int sheet, int i, int v) {
        need(in(sheet, 0, 3), BAD);
        Object row = sheets[sheet];
        need(row != null, -11);
        need(in(i, 0, java.lang.reflect.Array.getLength(row) - 1), -12);
        switch (sort(row)) {
            case 0 -> ((byte[]) row)[i] = (byte) v;
            case 1 -> ((short[]) row)[i] = (short) v;
            case 2 -> ((int[]) row)[i] = v;
            default -> ((long[]) row)[i] = v;
        }
        return 1;
    }

    int item(int sheet, int sort, int i) {
        need(in(sheet, 0, 3) && in(sort, 0, 3), BAD);
        Object row = sheets[sheet];
        need(row != null, -11);
        need(sort(row) == sort, -13);
        need(in(i, 0, java.lang.reflect.Array.getLength(row) - 1), -12);
        return ((Number) java.lang.reflect.Array.get(row, i)).intValue();
    }

    int shelf(int shelf, int what, int n) {
        need(in(shelf, 0, 3) && in(what, 0, 2), BAD);
        if (what == 0) {
            cap(n);
        }
        need(what != 1 || in(n, 0, 3), BAD);
        shelves[shelf] = what == 0 ? (Object) n : what == 1 ? sheets[n] : null;
        return 1;
    }

    private Object held(int shelf) {
        Object held = shelves[shelf];
        return held instanceof Integer n && n >= world.hats.size() ? null : held;
    }

    int taken(int shelf, int as) {
        need(in(shelf, 0, 3) && (in(as, 0, 5) || in(as, 10, 13)), BAD);
        Object held = held(shelf);
        need(held != null, -11);
        if (held instanceof Integer n) {
            need(as <= 5 && CLASSES.get(as).isInstance(world.hats.get(n).thing()), -13);
            return n;
        }
        need(as >= 10 && sort(held) == as - 10, -13);
        return java.lang.reflect.Array.getLength(held);
    }

    int act(int shelf, int act, int x) {
        trace.clear();
        if (!in(shelf, 0, 3) || !in(act, 0, 3) || !(held(shelf) instanceof Integer)) {
            return 0;
        }
        int n = (Integer) held(shelf);
        Plainest thing = thing(world.hats.get(n).kind, n, world.hats.get(n).a, trace);
        return switch (act) {
            case 0 -> thing.holds(x);
            case 1 -> thing.flies(x);
            case 2 -> thing.shares(x);
            default -> thing.tells(x);
        };
    }

    int trace(int i) {
        need(in(i, 0, Math.min(30, trace.size()) - 1), NONE);
        return trace.get(i);
    }

    int many(int what) {
        return switch (what) {
            case 0 -> world.people.size();
            case 1 -> world.hats.size();
            case 2 -> world.now;
            case 3 -> rows.size();
            case 4 -> tape.length();
            case 5 -> Math.min(30, trace.size());
            case 6 -> (int) world.hats.stream().filter(Cap::gone).count();
            default -> BAD;
        };
    }

    int keep() {
        kept = world.copy();
        keptZ = z;
        return 1;
    }

    int again() {
        need(kept != null, NONE);
        world = kept.copy();
        z = keptZ;
        return world.now;
    }
}
