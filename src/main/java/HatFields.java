/** A plain on which who wears a field's hat owns it; ../shared/DOC.md has the promises that the calls keep. */
public final class HatFields {
    public static final int BAD = -1, FULL = -2, NONE = -3, STATE = -4;

    private static final int MISSING = -11, OUTSIDE = -12, OTHER_SORT = -13, BELOW_0 = -14, PARTED_BY_0 = -15;
    private static final int NOBODY = -9;
    private static final int GONE = -9;
    private static final int NO_ROW = -9;

    private static final int SIDE = 5, PLACES = 25, DIRECTIONS = 4, FORCES = 10, DAY = 24, LAST_NOW = 96;
    private static final int PEOPLE = 5, SPEEDS = 4, HATS = 6, AS = 10, WORTHS = 100;
    private static final int LONGEST_TRIAL = 48, LONGEST_PLAN = 12;
    private static final int HAT = 0, PINNED = 1, STRAW = 2, TIED = 3, FEATHERED = 4, FELT = 5, KINDS = 6;
    private static final int HOLDS = 0, FLIES = 1, SHARES = 2, TELLS = 3, ACTS = 4;
    private static final int TAPE_SIZE = 200, ROWS = 20, ROW_PARTS = 3, SHEETS = 4, SHEET_SIZE = 40, SHELVES = 4;
    private static final int BYTES = 0, SHORTS = 1, SORTS = 4;
    private static final int OTHER_WIND = 0, OTHER_START = 1, TIED_HAT = 2;

    private final Plain plain = new Plain();
    private final Plain trial = new Plain();
    private final Plain kept = new Plain();
    private boolean anythingKept;
    private int z = 1;
    private int keptZ;
    private final Tape tape = new Tape();
    private final int[] rows = new int[ROWS * ROW_PARTS];
    private int rowCount;
    private final Row[] sheets = new Row[SHEETS];
    private final Shelf[] shelves = new Shelf[SHELVES];
    private final Actor actor = new Actor();

    public HatFields() {
        for (int i = 0; i < SHELVES; i++) {
            shelves[i] = new Shelf();
        }
    }

    // ---- the plain

    public int feed(long eight, int n) {
        if (n < 1 || n > 8) {
            return BAD;
        }
        if (n > tape.room()) {
            return FULL;
        }
        for (int i = 0; i < n; i++) {
            tape.take((byte) (eight >>> (8 * i)));
        }
        return tape.length;
    }

    public int plain() {
        // The trial's plain takes the text first, so that a fault leaves the plain as it was.
        int fault = tape.tellTo(trial);
        if (fault >= 0) {
            return -100 - fault;
        }
        plain.copyFrom(trial);
        rowCount = 0;
        return plain.hatCount;
    }

    public int wind(int hour, int direction, int force) {
        if (!isBelow(hour, DAY) || !isBelow(direction, DIRECTIONS) || !isBelow(force, FORCES)) {
            return BAD;
        }
        int was = plain.windIn(hour);
        plain.setWind(hour, direction, force);
        return was;
    }

    public int windOf(int hour) {
        return isBelow(hour, DAY) ? plain.windIn(hour) : BAD;
    }

    public int person(int place, int speed) {
        if (!isBelow(place, PLACES) || !isBelow(speed, SPEEDS)) {
            return BAD;
        }
        if (plain.peopleCount >= PEOPLE) {
            return FULL;
        }
        return plain.addPerson(place, speed);
    }

    public int personOf(int person, int what) {
        if (!isPerson(person)) {
            return BAD;
        }
        switch (what) {
            case 0: return plain.people[person].place;
            case 1: return plain.people[person].speed;
            case 2: return plain.ownedBy(person);
            case 3: return plain.wornBy(person);
            default: return BAD;
        }
    }

    public int moves(int person, int place) {
        if (!isPerson(person) || !isBelow(place, PLACES)) {
            return BAD;
        }
        int was = plain.people[person].place;
        plain.people[person].place = place;
        return was;
    }

    public int speed(int person, int v) {
        if (!isPerson(person) || !isBelow(v, SPEEDS)) {
            return BAD;
        }
        int was = plain.people[person].speed;
        plain.people[person].speed = v;
        return was;
    }

    public int hat(int kind, int a, int worth, int place) {
        if (!isBelow(kind, KINDS) || !isBelow(a, AS) || !isBelow(worth, WORTHS) || !isBelow(place, PLACES)) {
            return BAD;
        }
        if (plain.hatCount >= HATS) {
            return FULL;
        }
        int number = plain.addHat(kind, a, worth);
        plain.hats[number].lieIn(place);
        return number;
    }

    public int hatOf(int hat, int what) {
        if (!isHat(hat)) {
            return BAD;
        }
        Hat asked = plain.hats[hat];
        switch (what) {
            case 0: return asked.kind;
            case 1: return asked.a;
            case 2: return asked.worth;
            case 3: return asked.wearer;
            case 4: return plain.placeOf(hat);
            case 5: return asked.firmness();
            case 6: return asked.flight(plain.force[plain.hour()]);
            default: return BAD;
        }
    }

    public int make(int hat, int kind, int a) {
        if (!isHat(hat) || !isBelow(kind, KINDS) || !isBelow(a, AS)) {
            return BAD;
        }
        int was = plain.hats[hat].kind;
        plain.hats[hat].become(kind, a);
        return was;
    }

    public int puts(int hat, int person) {
        if (!isHat(hat) || !isPerson(person)) {
            return BAD;
        }
        Hat wanted = plain.hats[hat];
        if (!wanted.lies() || wanted.spot != plain.people[person].place) {
            return STATE;
        }
        wanted.goOn(person);
        return 1;
    }

    public int down(int hat) {
        if (!isHat(hat)) {
            return BAD;
        }
        if (!plain.hats[hat].isWorn()) {
            return STATE;
        }
        int place = plain.placeOf(hat);
        plain.hats[hat].lieIn(place);
        return place;
    }

    public int found(int hat, int place) {
        if (!isHat(hat) || !isBelow(place, PLACES)) {
            return BAD;
        }
        if (!plain.hats[hat].isGone()) {
            return STATE;
        }
        plain.hats[hat].lieIn(place);
        return 1;
    }

    public int bow(int a, int b) {
        if (!isPerson(a) || !isPerson(b) || a == b) {
            return BAD;
        }
        if (plain.people[a].place != plain.people[b].place) {
            return STATE;
        }
        return plain.swapHats(a, b);
    }

    // ---- hours

    public int hours(int n) {
        if (!isTrialLength(n)) {
            return BAD;
        }
        plain.passHours(n);
        return plain.now;
    }

    public int clock(int v) {
        if (v < 0 || v > LAST_NOW) {
            return BAD;
        }
        int was = plain.now;
        plain.now = v;
        return was;
    }

    // ---- what will be

    public int owns(int person, int n) {
        if (!isPerson(person) || !isTrialLength(n)) {
            return BAD;
        }
        tryHours(n);
        return trial.ownedBy(person);
    }

    public int where(int hat, int n) {
        if (!isHat(hat) || !isTrialLength(n)) {
            return BAD;
        }
        tryHours(n);
        return trial.placeOf(hat);
    }

    public int wears(int hat, int n) {
        if (!isHat(hat) || !isTrialLength(n)) {
            return BAD;
        }
        tryHours(n);
        return trial.hats[hat].wearer;
    }

    public int lost(int hat) {
        if (!isHat(hat)) {
            return BAD;
        }
        trial.copyFrom(plain);
        for (int gone = 0; gone <= LONGEST_TRIAL; gone++) {
            if (trial.hats[hat].isGone()) {
                return gone;
            }
            trial.passHours(1);
        }
        return NONE;
    }

    public int master(int n) {
        if (!isTrialLength(n)) {
            return BAD;
        }
        if (plain.peopleCount == 0) {
            return NONE;
        }
        tryHours(n);
        int richest = 0;
        for (int p = 1; p < trial.peopleCount; p++) {
            if (trial.ownedBy(p) > trial.ownedBy(richest)) {
                richest = p;
            }
        }
        return richest;
    }

    public int wish(int person, int n) {
        if (!isPerson(person) || !isPlanLength(n)) {
            return BAD;
        }
        if (plain.now >= LAST_NOW) {
            return STATE;
        }
        return bestFor(person, n, OTHER_WIND, 10 * DIRECTIONS);
    }

    public int start(int person, int n) {
        if (!isPerson(person) || !isPlanLength(n)) {
            return BAD;
        }
        return bestFor(person, n, OTHER_START, PLACES);
    }

    public int tie(int person, int n) {
        if (!isPerson(person) || !isPlanLength(n)) {
            return BAD;
        }
        if (plain.hatCount == 0) {
            return NONE;
        }
        return bestFor(person, n, TIED_HAT, plain.hatCount);
    }

    public int calm() {
        trial.copyFrom(plain);
        trial.stillWinds();
        for (int gone = 0; gone <= LONGEST_TRIAL; gone++) {
            if (!trial.anyLies()) {
                return gone;
            }
            // Not passHours: here the hours go on behind the last NOW.
            trial.passHour();
        }
        return NONE;
    }

    public int seed(int v) {
        int was = z;
        z = v;
        return was;
    }

    public int draw(int hour) {
        if (!isBelow(hour, DAY)) {
            return BAD;
        }
        z = z * 1103515245 + 12345;
        plain.setWind(hour, (z >>> 16) % DIRECTIONS, (z >>> 20) % FORCES);
        return plain.windIn(hour);
    }

    // ---- rows

    public int prove(int n) {
        if (n < 1 || n > ROWS) {
            return BAD;
        }
        trial.copyFrom(plain);
        rowCount = 0;
        for (int i = 0; i < n && trial.now < LAST_NOW; i++) {
            trial.passHour();
            rows[ROW_PARTS * i] = trial.now;
            rows[ROW_PARTS * i + 1] = trial.allWorn();
            rows[ROW_PARTS * i + 2] = trial.allGone();
            rowCount++;
        }
        return rowCount;
    }

    public int row(int i, int what) {
        return isRowPart(i, what) ? rows[ROW_PARTS * i + what] : NO_ROW;
    }

    public int alterRow(int i, int what, int v) {
        if (!isRowPart(i, what)) {
            return NO_ROW;
        }
        int was = rows[ROW_PARTS * i + what];
        rows[ROW_PARTS * i + what] = v;
        return was;
    }

    public int judge() {
        trial.copyFrom(plain);
        for (int i = 0; i < rowCount; i++) {
            if (trial.now >= LAST_NOW) {
                return i + 1;
            }
            trial.passHour();
            if (!isRowOfTrial(i)) {
                return i + 1;
            }
        }
        return 0;
    }

    public int winds(int sheet, int i, int hour, int n) {
        if (!isBelow(sheet, SHEETS) || !isBelow(hour, DAY) || n < 0 || n > DAY - hour) {
            return BAD;
        }
        Row row = sheets[sheet];
        if (row == null) {
            return MISSING;
        }
        if (row.sort != BYTES) {
            return OTHER_SORT;
        }
        if (i < 0 || i > row.items.length - n) {
            return OUTSIDE;
        }
        for (int k = 0; k < n; k++) {
            plain.force[hour + k] = Math.max(0, Math.min(FORCES - 1, row.items[i + k]));
        }
        return n;
    }

    // ---- the host

    public int sheet(int sheet, int sort, int n) {
        if (!isBelow(sheet, SHEETS) || sort < -1 || sort >= SORTS) {
            return BAD;
        }
        if (sort == -1) {
            sheets[sheet] = null;
            return 1;
        }
        if (n > SHEET_SIZE) {
            return BAD;
        }
        if (n < 0) {
            return BELOW_0;
        }
        sheets[sheet] = new Row(sort, n);
        return 1;
    }

    public int put(int sheet, int i, int v) {
        if (!isBelow(sheet, SHEETS)) {
            return BAD;
        }
        Row row = sheets[sheet];
        if (row == null) {
            return MISSING;
        }
        if (!isBelow(i, row.items.length)) {
            return OUTSIDE;
        }
        row.items[i] = row.narrowed(v);
        return 1;
    }

    public int item(int sheet, int sort, int i) {
        if (!isBelow(sheet, SHEETS) || !isBelow(sort, SORTS)) {
            return BAD;
        }
        Row row = sheets[sheet];
        if (row == null) {
            return MISSING;
        }
        if (row.sort != sort) {
            return OTHER_SORT;
        }
        return isBelow(i, row.items.length) ? row.items[i] : OUTSIDE;
    }

    public int shelf(int shelf, int what, int n) {
        if (!isBelow(shelf, SHELVES)) {
            return BAD;
        }
        if (what == 0 && isHat(n)) {
            shelves[shelf].takeHat(n);
        } else if (what == 1 && isBelow(n, SHEETS)) {
            shelves[shelf].takeRow(sheets[n]);
        } else if (what == 2) {
            shelves[shelf].takeRow(null);
        } else {
            return BAD;
        }
        return 1;
    }

    public int taken(int shelf, int as) {
        boolean asHat = isBelow(as, KINDS);
        boolean asRow = isBelow(as - 10, SORTS);
        if (!isBelow(shelf, SHELVES) || !asHat && !asRow) {
            return BAD;
        }
        int hat = shelves[shelf].hat;
        Row row = shelves[shelf].row;
        if (row == null && !isHat(hat)) {
            return MISSING;
        }
        if (row != null) {
            return asRow && row.sort == as - 10 ? row.items.length : OTHER_SORT;
        }
        return asHat && plain.hats[hat].isOfKind(as) ? hat : OTHER_SORT;
    }

    public int act(int shelf, int act, int x) {
        actor.forget();
        if (!isBelow(shelf, SHELVES) || !isBelow(act, ACTS)) {
            return 0;
        }
        int hat = shelves[shelf].hat;
        if (!isHat(hat)) {
            return 0;
        }
        return actor.perform(hat, plain.hats[hat], act, x);
    }

    public int trace(int i) {
        return isBelow(i, actor.ran) ? actor.bodies[i] : NONE;
    }

    public int many(int what) {
        switch (what) {
            case 0: return plain.peopleCount;
            case 1: return plain.hatCount;
            case 2: return plain.now;
            case 3: return rowCount;
            case 4: return tape.length;
            case 5: return actor.ran;
            case 6: return Integer.bitCount(plain.allGone());
            default: return BAD;
        }
    }

    // ---- kept

    public int keep() {
        kept.copyFrom(plain);
        keptZ = z;
        anythingKept = true;
        return 1;
    }

    public int again() {
        if (!anythingKept) {
            return NONE;
        }
        plain.copyFrom(kept);
        z = keptZ;
        return plain.now;
    }

    // ---- what the calls ask of their numbers

    private static boolean isBelow(int v, int bound) {
        return v >= 0 && v < bound;
    }

    private static boolean isTrialLength(int n) {
        return n >= 0 && n <= LONGEST_TRIAL;
    }

    private static boolean isPlanLength(int n) {
        return n >= 1 && n <= LONGEST_PLAN;
    }

    private boolean isPerson(int person) {
        return isBelow(person, plain.peopleCount);
    }

    private boolean isHat(int hat) {
        return isBelow(hat, plain.hatCount);
    }

    private boolean isRowPart(int i, int what) {
        return isBelow(i, rowCount) && isBelow(what, ROW_PARTS);
    }

    private boolean isRowOfTrial(int i) {
        return rows[ROW_PARTS * i] == trial.now
            && rows[ROW_PARTS * i + 1] == trial.allWorn()
            && rows[ROW_PARTS * i + 2] == trial.allGone();
    }

    // ---- trials

    private void tryHours(int n) {
        trial.copyFrom(plain);
        trial.passHours(n);
    }

    /** Of the choices for one change the least with which a person owns most behind n hours. */
    private int bestFor(int person, int n, int change, int choices) {
        int best = 0;
        int most = -1;
        for (int choice = 0; choice < choices; choice++) {
            trial.copyFrom(plain);
            changeTrial(change, person, choice);
            trial.passHours(n);
            int owned = trial.ownedBy(person);
            if (owned > most) {
                most = owned;
                best = choice;
            }
        }
        return best;
    }

    private void changeTrial(int change, int person, int choice) {
        if (change == OTHER_WIND) {
            trial.setWind(trial.hour(), choice / 10, choice % 10);
        } else if (change == OTHER_START) {
            trial.people[person].place = choice;
        } else if (change == TIED_HAT) {
            trial.hats[choice].become(TIED, AS - 1);
        }
    }

    /** One of the people: where, and how many steps an hour at most. */
    private static final class Person {
        int place;
        int speed;

        void copyFrom(Person other) {
            place = other.place;
            speed = other.speed;
        }

        void runTo(int goal) {
            int columns = atMost(speed, goal % SIDE - place % SIDE);
            int rowsApart = atMost(speed - Math.abs(columns), goal / SIDE - place / SIDE);
            place += SIDE * rowsApart + columns;
        }

        private static int atMost(int steps, int way) {
            return Math.max(-steps, Math.min(steps, way));
        }
    }

    /** A hat: worn if it has a wearer, lying if it has a spot, gone if it has neither. */
    private static final class Hat {
        /** The kind that each kind stands under; a hat under itself. */
        private static final int[] ABOVE = {HAT, HAT, HAT, PINNED, STRAW, HAT};

        int kind;
        int a;
        int worth;
        int wearer = NOBODY;
        int spot = GONE;

        void copyFrom(Hat other) {
            kind = other.kind;
            a = other.a;
            worth = other.worth;
            wearer = other.wearer;
            spot = other.spot;
        }

        void become(int newKind, int newA) {
            kind = newKind;
            a = newA;
        }

        void goOn(int person) {
            wearer = person;
            spot = GONE;
        }

        void lieIn(int place) {
            wearer = NOBODY;
            spot = place;
        }

        boolean isWorn() {
            return wearer >= 0;
        }

        boolean lies() {
            return spot >= 0;
        }

        boolean isGone() {
            return wearer < 0 && spot < 0;
        }

        boolean isOfKind(int asked) {
            return kind == asked || ABOVE[kind] == asked || asked == HAT;
        }

        int firmness() {
            int plainOne = 3;
            switch (kind) {
                case PINNED: return plainOne + a / 2;
                case STRAW: return plainOne - 2;
                case TIED: return 2 * (plainOne + a / 2);
                case FEATHERED: return Math.max(0, plainOne - 2 - a % 2);
                case FELT: return plainOne + 1;
                default: return plainOne;
            }
        }

        int flight(int force) {
            int plainOne = force / 3;
            int ofStraw = force > 0 ? plainOne + 1 : plainOne;
            switch (kind) {
                case STRAW: return ofStraw;
                case FEATHERED: return 2 * ofStraw;
                case FELT: return plainOne / 2;
                default: return plainOne;
            }
        }

        void fly(int direction, int steps) {
            int column = spot % SIDE;
            int row = spot / SIDE;
            switch (direction) {
                case 0: row -= steps; break;
                case 1: column += steps; break;
                case 2: row += steps; break;
                default: column -= steps; break;
            }
            spot = isBelow(column, SIDE) && isBelow(row, SIDE) ? SIDE * row + column : GONE;
        }
    }

    /** Winds, people, hats and NOW: all that an hour changes or goes by. */
    private static final class Plain {
        final int[] direction = new int[DAY];
        final int[] force = new int[DAY];
        final Person[] people = new Person[PEOPLE];
        final Hat[] hats = new Hat[HATS];
        int peopleCount;
        int hatCount;
        int now;

        Plain() {
            for (int i = 0; i < PEOPLE; i++) {
                people[i] = new Person();
            }
            for (int i = 0; i < HATS; i++) {
                hats[i] = new Hat();
            }
        }

        void clear() {
            stillWinds();
            peopleCount = 0;
            hatCount = 0;
            now = 0;
        }

        void stillWinds() {
            for (int i = 0; i < DAY; i++) {
                setWind(i, 0, 0);
            }
        }

        void copyFrom(Plain other) {
            System.arraycopy(other.direction, 0, direction, 0, DAY);
            System.arraycopy(other.force, 0, force, 0, DAY);
            peopleCount = other.peopleCount;
            for (int i = 0; i < peopleCount; i++) {
                people[i].copyFrom(other.people[i]);
            }
            hatCount = other.hatCount;
            for (int i = 0; i < hatCount; i++) {
                hats[i].copyFrom(other.hats[i]);
            }
            now = other.now;
        }

        int hour() {
            return now % DAY;
        }

        int windIn(int hour) {
            return 10 * direction[hour] + force[hour];
        }

        void setWind(int hour, int newDirection, int newForce) {
            direction[hour] = newDirection;
            force[hour] = newForce;
        }

        /** Whoever calls has looked that there is room for one more. */
        int addPerson(int place, int speed) {
            people[peopleCount].place = place;
            people[peopleCount].speed = speed;
            peopleCount++;
            return peopleCount - 1;
        }

        /** Whoever calls has looked that there is room for one more, and says where it lies or who wears it. */
        int addHat(int kind, int a, int worth) {
            hats[hatCount].become(kind, a);
            hats[hatCount].worth = worth;
            hatCount++;
            return hatCount - 1;
        }

        int placeOf(int hat) {
            Hat asked = hats[hat];
            return asked.isWorn() ? people[asked.wearer].place : asked.spot;
        }

        int ownedBy(int person) {
            int owned = 0;
            for (int h = 0; h < hatCount; h++) {
                if (hats[h].wearer == person) {
                    owned += hats[h].worth;
                }
            }
            return owned;
        }

        int wornBy(int person) {
            int set = 0;
            for (int h = 0; h < hatCount; h++) {
                if (hats[h].wearer == person) {
                    set |= 1 << h;
                }
            }
            return set;
        }

        int allWorn() {
            int set = 0;
            for (int h = 0; h < hatCount; h++) {
                if (hats[h].isWorn()) {
                    set |= 1 << h;
                }
            }
            return set;
        }

        int allGone() {
            int set = 0;
            for (int h = 0; h < hatCount; h++) {
                if (hats[h].isGone()) {
                    set |= 1 << h;
                }
            }
            return set;
        }

        boolean anyLies() {
            for (int h = 0; h < hatCount; h++) {
                if (hats[h].lies()) {
                    return true;
                }
            }
            return false;
        }

        int swapHats(int a, int b) {
            int changed = 0;
            for (int h = 0; h < hatCount; h++) {
                int wearer = hats[h].wearer;
                if (wearer == a || wearer == b) {
                    hats[h].goOn(wearer == a ? b : a);
                    changed++;
                }
            }
            return changed;
        }

        void passHours(int n) {
            for (int i = 0; i < n && now < LAST_NOW; i++) {
                passHour();
            }
        }

        void passHour() {
            int hour = hour();
            blow(direction[hour], force[hour]);
            for (int p = 0; p < peopleCount; p++) {
                runForNearest(p);
            }
            now++;
        }

        private void blow(int way, int strength) {
            for (int h = 0; h < hatCount; h++) {
                Hat hat = hats[h];
                if (hat.isWorn() && hat.firmness() < strength) {
                    hat.lieIn(placeOf(h));
                }
                if (hat.lies()) {
                    hat.fly(way, hat.flight(strength));
                }
            }
        }

        private void runForNearest(int person) {
            int nearest = nearestTo(people[person].place);
            if (nearest < 0) {
                return;
            }
            int goal = hats[nearest].spot;
            people[person].runTo(goal);
            if (people[person].place == goal) {
                putOnAll(person, goal);
            }
        }

        /** Of hats that lie the nearest to a place, or -1. */
        private int nearestTo(int place) {
            int nearest = -1;
            int least = 2 * SIDE;
            for (int h = 0; h < hatCount; h++) {
                if (hats[h].lies()) {
                    int spot = hats[h].spot;
                    int apart = Math.abs(spot % SIDE - place % SIDE) + Math.abs(spot / SIDE - place / SIDE);
                    if (apart < least) {
                        least = apart;
                        nearest = h;
                    }
                }
            }
            return nearest;
        }

        private void putOnAll(int person, int place) {
            for (int h = 0; h < hatCount; h++) {
                if (hats[h].lies() && hats[h].spot == place) {
                    hats[h].goOn(person);
                }
            }
        }
    }

    /** Takes bytes and reads them as the text of a plain, sign by sign: a name, a number or another byte. */
    private static final class Tape {
        private static final int END = 0, NAME = 1, NUMBER = 2, OTHER = 3;
        private static final int NO_FAULT = -1;

        private final byte[] bytes = new byte[TAPE_SIZE];
        int length;
        /** The sign that is looked at: its bytes are those from begin up to end. */
        private int sort;
        private int begin;
        private int end;
        private int fault;

        int room() {
            return TAPE_SIZE - length;
        }

        void take(byte next) {
            if (length < TAPE_SIZE) {
                bytes[length] = next;
                length++;
            }
        }

        /** The fault, or -1 if told is now the plain by the text; the bytes are used up either way. */
        int tellTo(Plain told) {
            end = 0;
            fault = NO_FAULT;
            told.clear();
            step();
            for (int i = 0; i < TAPE_SIZE && fault == NO_FAULT && sort != END; i++) {
                readOne(told);
            }
            length = 0;
            return fault;
        }

        private void readOne(Plain told) {
            int kind = kindNamed();
            if (kind >= 0 && told.hatCount < HATS) {
                readHat(told, kind);
            } else if (spells("person") && told.peopleCount < PEOPLE) {
                readPerson(told);
            } else if (spells("wind")) {
                readWind(told);
            } else if (spells("now")) {
                step();
                told.now = number(LAST_NOW);
                semicolon();
            } else {
                fail();
            }
        }

        private void readPerson(Plain told) {
            step();
            int place = number(PLACES - 1);
            int speed = 1;
            if (spells("speed")) {
                step();
                speed = number(SPEEDS - 1);
            }
            semicolon();
            told.addPerson(place, speed);
        }

        private void readHat(Plain told, int kind) {
            step();
            int a = number(AS - 1);
            word("worth");
            Hat hat = told.hats[told.addHat(kind, a, number(WORTHS - 1))];
            if (spells("of")) {
                step();
                hat.goOn(number(told.peopleCount - 1));
            } else {
                word("on");
                hat.lieIn(number(PLACES - 1));
            }
            semicolon();
        }

        private void readWind(Plain told) {
            step();
            int hour = number(DAY - 1);
            int direction = directionNamed();
            if (direction < 0) {
                fail();
                return;
            }
            step();
            told.setWind(hour, direction, number(FORCES - 1));
            semicolon();
        }

        private int kindNamed() {
            return spells("hat") ? HAT
                : spells("pinned") ? PINNED
                : spells("straw") ? STRAW
                : spells("tied") ? TIED
                : spells("feathered") ? FEATHERED
                : spells("felt") ? FELT
                : -1;
        }

        private int directionNamed() {
            return spells("north") ? 0
                : spells("east") ? 1
                : spells("south") ? 2
                : spells("west") ? 3
                : -1;
        }

        private boolean spells(String name) {
            if (sort != NAME || end - begin != name.length()) {
                return false;
            }
            for (int i = 0; i < name.length(); i++) {
                if (bytes[begin + i] != name.charAt(i)) {
                    return false;
                }
            }
            return true;
        }

        private void word(String name) {
            if (spells(name)) {
                step();
            } else {
                fail();
            }
        }

        /** The number here, 0 to most; 0 behind a fault, so that it can be used whatever stands there. */
        private int number(int most) {
            if (sort != NUMBER || end - begin > 2) {
                fail();
                return 0;
            }
            int value = 0;
            for (int i = begin; i < end; i++) {
                value = 10 * value + bytes[i] - '0';
            }
            if (value > most) {
                fail();
                return 0;
            }
            step();
            return value;
        }

        private void semicolon() {
            if (sort == OTHER && bytes[begin] == ';') {
                step();
            } else {
                fail();
            }
        }

        /** The first fault counts: what is read behind it goes into a plain that is thrown away. */
        private void fail() {
            if (fault == NO_FAULT) {
                fault = begin;
            }
        }

        private void step() {
            begin = end;
            while (begin < length && bytes[begin] == ' ') {
                begin++;
            }
            sort = sortAt(begin);
            end = begin;
            if (sort == OTHER) {
                end++;
            } else if (sort != END) {
                while (end < length && sortAt(end) == sort) {
                    end++;
                }
            }
        }

        private int sortAt(int at) {
            if (at >= length) {
                return END;
            }
            if (bytes[at] >= 'a' && bytes[at] <= 'z') {
                return NAME;
            }
            return bytes[at] >= '0' && bytes[at] <= '9' ? NUMBER : OTHER;
        }
    }

    /** The row of a sheet. Ints hold every sort: an int put into a long is its lowest 32 bits. */
    private static final class Row {
        final int sort;
        final int[] items;

        /** Whoever calls has looked that size is 0 to 40. */
        Row(int sort, int size) {
            this.sort = sort;
            this.items = new int[size];
        }

        int narrowed(int v) {
            return sort == BYTES ? (byte) v : sort == SHORTS ? (short) v : v;
        }
    }

    /** What lies on a shelf: a row, else a hat by its number, else nothing. */
    private static final class Shelf {
        private static final int NO_HAT = -1;

        int hat = NO_HAT;
        /** The row itself, which stays here when its sheet gets another one. */
        Row row;

        void takeHat(int number) {
            hat = number;
            row = null;
        }

        void takeRow(Row newRow) {
            hat = NO_HAT;
            row = newRow;
        }
    }

    /** A hat as a thing that acts, and the trace of the bodies that ran. */
    private static final class Actor {
        /** For each kind the bodies of its four acts, own ones or those of the kinds above. */
        private static final int[] BODIES = {
            10, 11, 12, 13,
            10, 20, 12, 13,
            30, 11, 12, 31,
            51, 20, 50, 13,
            40, 41, 12, 31,
            10, 11, 61, 60,
        };
        private static final int TRACE_SIZE = 30;
        private static final int DEEPEST = 20;

        final int[] bodies = new int[TRACE_SIZE];
        int ran;
        private int kind;
        private int n;
        private int a;
        private boolean parted;

        void forget() {
            ran = 0;
        }

        int perform(int number, Hat hat, int act, int x) {
            kind = hat.kind;
            n = number;
            a = hat.a;
            parted = false;
            int answer = run(kind, act, x, 0);
            return parted ? PARTED_BY_0 : answer;
        }

        /** An act as things of a kind do it: the thing's own kind, or, for super, one above the body's. */
        private int run(int as, int act, int x, int depth) {
            // Once something was parted by 0 no other body may begin.
            if (parted || depth > DEEPEST) {
                return 0;
            }
            int body = BODIES[ACTS * as + act];
            begin(body);
            int next = depth + 1;
            switch (body) {
                case 10: return x + n;
                case 11: return run(kind, HOLDS, x, next) * 2;
                case 12: return share(x);
                case 13: return run(kind, FLIES, x, next) ^ a;
                case 20: return run(HAT, FLIES, x, next) - a;
                case 30: return run(HAT, HOLDS, x, next) * 3;
                case 31: return run(HAT, TELLS, x, next) + run(kind, SHARES, n, next);
                case 40: return 0 - run(STRAW, HOLDS, x, next);
                case 41: return run(STRAW, FLIES, x, next) + run(kind, HOLDS, n, next);
                case 50: return run(PINNED, SHARES, x + 2, next) ^ 1;
                case 51: return run(PINNED, HOLDS, x, next) - n;
                case 60: return run(HAT, TELLS, x, next) * 2;
                case 61: return run(HAT, SHARES, x, next) + run(kind, HOLDS, a, next);
                default: return 0;
            }
        }

        private int share(int x) {
            int parts = a - n;
            if (parts == 0) {
                parted = true;
                return 0;
            }
            return x / parts;
        }

        private void begin(int body) {
            if (ran < TRACE_SIZE) {
                bodies[ran] = body;
                ran++;
            }
        }
    }
}
