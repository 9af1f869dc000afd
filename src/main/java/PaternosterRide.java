/**
 * A paternoster in an old town hall: floors, cabins, people of kinds, what they will do, and notes.
 *
 * Every row is made with the object and used again, so that no call makes an object of its own.
 */
public final class PaternosterRide {
    public static final int NONE = -1, UNKNOWN = -2, OUTSIDE = -3, NOT = -4, FULL = -5, NULL = -11, INDEX = -12, ORDER = -13, CAST = -14, ROOM = -15;

    // No refusal is 0, so a check that finds nothing can answer it.
    private static final int FINE = 0;

    private static final int WAITS = 0, RIDES = 1, THERE = 2;
    // What person() and behind() are asked of one who is on the way.
    private static final int STATE = 3, CABIN = 4, RIDDEN = 5;
    private static final int NUMBER = 0, PERSON = 1, MARK = 2;

    private static final int MOST_FLOORS = 7, MOST_PEOPLE = 8, MOST_KINDS = 5, MOST_STEPS = 999;
    private static final int MOST_LETTERS = 200, MOST_CLAUSES = 24;
    private static final int MOST_UNDONE = 8, MOST_KEPT = 2;
    private static final int MOST_AHEAD = 60, NEVER = 61;
    private static final int MOST_LOOKING = 6, MOST_LINES = 720, MOST_SEEN = 6;
    private static final int MOST_NOTES = 3, MOST_THINGS = 12;
    // Two ints have their common divisor behind fewer divisions than these.
    private static final int MOST_DIVISIONS = 64;

    private static final int[] RISING = {0, 1, 2, 3, 4, 5, 6, 7};

    private final Plan told = new Plan();
    private final House house = new House(told);
    private final Past past = new Past(told);
    private final Reader reader = new Reader();
    private final Foresight foresight = new Foresight(house);
    private final Sightings sightings = new Sightings();
    private final Notes[] rows = new Notes[MOST_NOTES];
    private final int[] hand = new int[MOST_THINGS];

    public PaternosterRide() {
        for (int i = 0; i < MOST_NOTES; i++) {
            rows[i] = new Notes();
        }
        house.begin();
    }

    // ---- what is told

    public int write(int letter) {
        if (!within(letter, 0, 255)) {
            return OUTSIDE;
        }
        return reader.append(letter) ? reader.length : FULL;
    }

    public int erase() {
        int had = reader.length;
        reader.length = 0;
        return had;
    }

    public int fault() {
        return reader.readText(told);
    }

    public int hall() {
        if (reader.readText(told) != NONE) {
            return NOT;
        }
        told.take(reader.draft);
        house.begin();
        past.clear();
        foresight.orderKnown = false;
        sightings.size = 0;
        for (int i = 0; i < MOST_NOTES; i++) {
            rows[i].missing = true;
        }
        reader.length = 0;
        return reader.clauses;
    }

    public int person(int person, int what) {
        if (!told.hasPerson(person)) {
            return UNKNOWN;
        }
        switch (what) {
            case 0: return told.kind[person].number;
            case 1: return told.from[person];
            case 2: return told.to[person];
            case STATE: case CABIN: case RIDDEN: return house.toldOf(person, what);
            case 6: return told.kind[person].takes;
            default: return OUTSIDE;
        }
    }

    public int cabin(int cabin, int what) {
        if (!told.hasCabin(cabin)) {
            return UNKNOWN;
        }
        switch (what) {
            case 0: return house.isShut(cabin) ? 1 : 0;
            case 1: return house.placeOf(cabin);
            case 2: return house.floorAt(house.placeOf(cabin));
            case 3: return house.ridersIn(cabin);
            case 4: return house.roomLeft(cabin);
            default: return OUTSIDE;
        }
    }

    public int as(int person, int kind) {
        if (!told.hasPerson(person)) {
            return UNKNOWN;
        }
        if (!within(kind, 0, MOST_KINDS)) {
            return OUTSIDE;
        }
        Kind own = told.kind[person];
        return own.isUnder(kind) ? own.takes : NOT;
    }

    // ---- what is done

    public int step(int n) {
        if (!within(n, 1, 12)) {
            return OUTSIDE;
        }
        if (house.steps + n > MOST_STEPS) {
            return FULL;
        }
        remember();
        for (int i = 0; i < n; i++) {
            house.advance(RISING, MOST_PEOPLE);
        }
        return house.steps;
    }

    public int shut(int cabin) {
        if (!told.hasCabin(cabin)) {
            return UNKNOWN;
        }
        remember();
        house.shutCabins ^= 1 << cabin;
        return house.isShut(cabin) ? 1 : 0;
    }

    public int stairs(int person) {
        if (!told.hasPerson(person)) {
            return UNKNOWN;
        }
        if (!house.isWaiting(person)) {
            return NOT;
        }
        remember();
        house.state[person] = THERE;
        return Integer.bitCount(house.peopleWho(WAITS));
    }

    public int undo() {
        if (!past.takeBack(house)) {
            return NOT;
        }
        foresight.orderKnown = false;
        return past.undoable;
    }

    public int keep(int k) {
        if (!within(k, 0, MOST_KEPT - 1)) {
            return UNKNOWN;
        }
        past.kept[k].take(house);
        past.isKept[k] = true;
        return house.steps;
    }

    public int back(int k) {
        if (!within(k, 0, MOST_KEPT - 1)) {
            return UNKNOWN;
        }
        if (!past.isKept[k]) {
            return NOT;
        }
        house.take(past.kept[k]);
        past.undoable = 0;
        foresight.orderKnown = false;
        return house.steps;
    }

    // ---- foretold

    public int behind(int person, int n, int what) {
        if (!told.hasPerson(person)) {
            return UNKNOWN;
        }
        if (!within(n, 0, MOST_AHEAD) || !within(what, STATE, RIDDEN)) {
            return OUTSIDE;
        }
        return foresight.houseBehind(n).toldOf(person, what);
    }

    public int arrives(int person) {
        return told.hasPerson(person) ? stepsOrNone(foresight.arrivalOf(person)) : UNKNOWN;
    }

    public int all() {
        return stepsOrNone(foresight.lastArrival(house.shutCabins));
    }

    public int meet(int person, int other) {
        if (!told.hasPerson(person) || !told.hasPerson(other) || person == other) {
            return UNKNOWN;
        }
        return stepsOrNone(foresight.firstMeeting(person, other));
    }

    public int jam(int what) {
        if (!within(what, 0, 1)) {
            return OUTSIDE;
        }
        int worst = foresight.worstCabin();
        if (worst == NONE || what == 0) {
            return worst;
        }
        return stepsOrNone(foresight.lastArrival(house.shutCabins | 1 << worst));
    }

    public int order(int k) {
        if (!within(k, NONE, MOST_LOOKING - 1)) {
            return OUTSIDE;
        }
        if (Integer.bitCount(house.peopleWho(WAITS)) > MOST_LOOKING) {
            return NONE;
        }
        foresight.findOrder();
        if (k == NONE) {
            return foresight.least;
        }
        return k < foresight.waiting ? foresight.best[k] : NONE;
    }

    public int dares(int person, int q, int n, int part) {
        if (!told.hasPerson(person)) {
            return UNKNOWN;
        }
        if (!within(q, 0, 10) || !within(n, 0, 8) || !within(part, 0, 1)) {
            return OUTSIDE;
        }
        int chances = foresight.chancesToRide(person, n);
        int below = power(10, chances);
        int above = below - power(q, chances);
        int common = Math.max(1, commonDivisor(above, below));
        return (part == 0 ? above : below) / common;
    }

    // ---- what was seen

    public int seen(int a, int b, int n) {
        if (!told.hasFloor(a) || !told.hasFloor(b) || a == b || !within(n, 1, MOST_AHEAD)) {
            return OUTSIDE;
        }
        return sightings.note(a, b, n) ? sightings.size : FULL;
    }

    public int forget() {
        int had = sightings.size;
        sightings.size = 0;
        return had;
    }

    public int kinds() {
        return sightings.fittingKinds(told.floors);
    }

    public int ask() {
        return sightings.bestQuestion(told.floors, sightings.fittingKinds(told.floors));
    }

    // ---- notes

    public int notes(int notes) {
        if (!hasNotes(notes)) {
            return UNKNOWN;
        }
        rows[notes].missing = false;
        rows[notes].size = 0;
        return 0;
    }

    public int insert(int notes, int i, int what, int v) {
        int refusal = refusalOfThing(notes, what, v);
        if (refusal != FINE) {
            return refusal;
        }
        Notes row = rows[notes];
        if (row.missing) {
            return NULL;
        }
        if (!within(i, 0, row.size)) {
            return INDEX;
        }
        if (row.size >= MOST_THINGS) {
            return ROOM;
        }
        hand[0] = Notes.thing(what, v);
        row.setIn(i, hand, 1);
        return row.size;
    }

    public int look(int notes, int i, int what) {
        if (!hasNotes(notes)) {
            return UNKNOWN;
        }
        if (!within(what, NUMBER, MARK)) {
            return OUTSIDE;
        }
        Notes row = rows[notes];
        if (row.missing) {
            return NULL;
        }
        if (!within(i, 0, row.size - 1)) {
            return INDEX;
        }
        if (Notes.sortOf(row.things[i]) != what) {
            return CAST;
        }
        return Notes.valueOf(row.things[i]) + (what == NUMBER ? Notes.LIFT : 0);
    }

    public int cut(int notes, int i, int j) {
        int refusal = refusalOfSpan(notes, i, j);
        if (refusal != FINE) {
            return refusal;
        }
        rows[notes].takeOut(i, j);
        return rows[notes].size;
    }

    public int turn(int notes, int i, int j, int d) {
        if (!hasNotes(notes)) {
            return UNKNOWN;
        }
        if (!within(d, -20, 20)) {
            return OUTSIDE;
        }
        int refusal = refusalOfSpan(notes, i, j);
        if (refusal != FINE) {
            return refusal;
        }
        rows[notes].rotate(i, j, d);
        return j - i;
    }

    public int reverse(int notes, int i, int j) {
        int refusal = refusalOfSpan(notes, i, j);
        if (refusal != FINE) {
            return refusal;
        }
        rows[notes].flip(i, j);
        return j - i;
    }

    public int paste(int to, int k, int from, int i, int j) {
        if (!hasNotes(to) || !hasNotes(from)) {
            return UNKNOWN;
        }
        if (rows[to].missing) {
            return NULL;
        }
        int refusal = refusalOfSpan(from, i, j);
        // ORDER comes behind INDEX, and k may still be found to be no place.
        if (refusal != FINE && refusal != ORDER) {
            return refusal;
        }
        if (!within(k, 0, rows[to].size)) {
            return INDEX;
        }
        if (refusal == ORDER) {
            return ORDER;
        }
        if (rows[to].size + (j - i) > MOST_THINGS) {
            return ROOM;
        }
        // By way of the hand, as the two may be the same NOTES.
        rows[from].readInto(hand, i, j);
        rows[to].setIn(k, hand, j - i);
        return rows[to].size;
    }

    public int often(int notes, int what, int v) {
        int refusal = refusalOfThing(notes, what, v);
        if (refusal != FINE) {
            return refusal;
        }
        return rows[notes].missing ? NULL : rows[notes].howMany(Notes.thing(what, v));
    }

    public int drop(int notes) {
        if (!hasNotes(notes)) {
            return UNKNOWN;
        }
        if (rows[notes].missing) {
            return NULL;
        }
        rows[notes].missing = true;
        return rows[notes].size;
    }

    public int count(int what) {
        switch (what) {
            case 0: return told.floors;
            case 1: return told.people;
            case 2: return house.steps;
            case 3: return house.peopleWho(WAITS);
            case 4: return house.peopleWho(RIDES);
            case 5: return house.peopleWho(THERE);
            case 6: return house.shutCabins;
            case 7: return told.room;
            case 8: return sightings.size;
            case 9: return thingsInAll();
            case 10: return past.undoable;
            case 11: return reader.length;
            default: return OUTSIDE;
        }
    }

    // ---- what the calls share

    private static boolean within(int number, int least, int most) {
        return number >= least && number <= most;
    }

    private static int stepsOrNone(int steps) {
        return steps > MOST_AHEAD ? NONE : steps;
    }

    private static int power(int base, int exponent) {
        int product = 1;
        for (int i = 0; i < exponent; i++) {
            product *= base;
        }
        return product;
    }

    private static int commonDivisor(int a, int b) {
        int larger = b;
        int smaller = a;
        for (int turns = 0; turns < MOST_DIVISIONS && smaller > 0; turns++) {
            int rest = larger % smaller;
            larger = smaller;
            smaller = rest;
        }
        return larger;
    }

    private void remember() {
        past.push(house);
        foresight.orderKnown = false;
    }

    private boolean hasNotes(int notes) {
        return within(notes, 0, MOST_NOTES - 1);
    }

    private int refusalOfThing(int notes, int what, int v) {
        if (!hasNotes(notes) || what == PERSON && !told.hasPerson(v)) {
            return UNKNOWN;
        }
        if (!within(what, NUMBER, MARK)) {
            return OUTSIDE;
        }
        if (what == NUMBER && !within(v, -9999, 9999) || what == MARK && !within(v, 0, 9)) {
            return OUTSIDE;
        }
        return FINE;
    }

    private int refusalOfSpan(int notes, int i, int j) {
        if (!hasNotes(notes)) {
            return UNKNOWN;
        }
        if (rows[notes].missing) {
            return NULL;
        }
        if (i < 0 || j > rows[notes].size) {
            return INDEX;
        }
        return j < i ? ORDER : FINE;
    }

    private int thingsInAll() {
        int things = 0;
        for (int i = 0; i < MOST_NOTES; i++) {
            things += rows[i].missing ? 0 : rows[i].size;
        }
        return things;
    }

    private enum Kind {
        PLAIN(0, "plain", 0, 1),
        TIMID(1, "timid", 1, 1),
        BEARER(2, "bearer", 1, 2),
        IDLER(3, "idler", 0, 1),
        HASTY(4, "hasty", 4, 1);

        final int number;
        final String word;
        final int parent;
        final int takes;

        Kind(int number, String word, int parent, int takes) {
            this.number = number;
            this.word = word;
            this.parent = parent;
            this.takes = takes;
        }

        static Kind numbered(int number) {
            switch (number) {
                case 1: return TIMID;
                case 2: return BEARER;
                case 3: return IDLER;
                case 4: return HASTY;
                default: return PLAIN;
            }
        }

        // In the tree of kinds PERSON is 0, so each kind stands there one above its own number.
        boolean isUnder(int node) {
            return node == 0 || node == number + 1 || node == parent;
        }

        boolean wantsItEmpty() {
            return this == TIMID;
        }

        boolean ridesRightRound() {
            return this == IDLER;
        }

        boolean looksUpFirst() {
            return this == IDLER;
        }

        boolean looksAtBoth() {
            return this == IDLER || this == HASTY;
        }
    }

    /** What the texts have told so far. */
    private static final class Plan {
        int floors;
        int room;
        int shutCabins;
        int people;
        final Kind[] kind = new Kind[MOST_PEOPLE];
        final int[] from = new int[MOST_PEOPLE];
        final int[] to = new int[MOST_PEOPLE];

        Plan() {
            // Never null, so that whoever looks needs no test.
            for (int p = 0; p < MOST_PEOPLE; p++) {
                kind[p] = Kind.PLAIN;
            }
            clear(4);
        }

        void clear(int newFloors) {
            floors = newFloors;
            room = 2;
            shutCabins = 0;
            people = 0;
        }

        void take(Plan other) {
            floors = other.floors;
            room = other.room;
            shutCabins = other.shutCabins;
            people = other.people;
            for (int p = 0; p < MOST_PEOPLE; p++) {
                kind[p] = other.kind[p];
                from[p] = other.from[p];
                to[p] = other.to[p];
            }
        }

        boolean isCrowded() {
            return people >= MOST_PEOPLE;
        }

        void admit(Kind newKind, int newFrom, int newTo) {
            if (isCrowded()) {
                return;
            }
            kind[people] = newKind;
            from[people] = newFrom;
            to[people] = newTo;
            people++;
        }

        int ring() {
            return 2 * floors;
        }

        boolean hasFloor(int floor) {
            return floor >= 0 && floor < floors;
        }

        boolean hasCabin(int cabin) {
            return cabin >= 0 && cabin < ring();
        }

        boolean hasPerson(int person) {
            return person >= 0 && person < people;
        }
    }

    /** How things stand in a house of a plan; several of one plan are kept, undone and foretold. */
    private static final class House {
        final Plan plan;
        int steps;
        int shutCabins;
        final int[] state = new int[MOST_PEOPLE];
        final int[] inCabin = new int[MOST_PEOPLE];
        final int[] ridden = new int[MOST_PEOPLE];

        House(Plan plan) {
            this.plan = plan;
        }

        void begin() {
            steps = 0;
            shutCabins = plan.shutCabins;
            for (int p = 0; p < MOST_PEOPLE; p++) {
                put(p, WAITS, NONE);
            }
        }

        void take(House other) {
            steps = other.steps;
            shutCabins = other.shutCabins;
            System.arraycopy(other.state, 0, state, 0, MOST_PEOPLE);
            System.arraycopy(other.inCabin, 0, inCabin, 0, MOST_PEOPLE);
            System.arraycopy(other.ridden, 0, ridden, 0, MOST_PEOPLE);
        }

        private void put(int person, int newState, int newCabin) {
            state[person] = newState;
            inCabin[person] = newCabin;
            ridden[person] = 0;
        }

        void leaveAlone(int person) {
            for (int p = 0; p < MOST_PEOPLE; p++) {
                put(p, p == person ? WAITS : THERE, NONE);
            }
        }

        int placeOf(int cabin) {
            int ring = plan.ring();
            return ring < 1 ? 0 : (cabin + steps) % ring;
        }

        private int cabinAt(int place) {
            int ring = plan.ring();
            return ring < 1 ? 0 : (place + ring - steps % ring) % ring;
        }

        int floorAt(int place) {
            return place < plan.floors ? place : plan.ring() - 1 - place;
        }

        boolean isShut(int cabin) {
            return (shutCabins & 1 << cabin) != 0;
        }

        boolean isWaiting(int person) {
            return person >= 0 && person < plan.people && state[person] == WAITS;
        }

        int peopleWho(int wanted) {
            int bits = 0;
            for (int p = 0; p < plan.people; p++) {
                if (state[p] == wanted) {
                    bits |= 1 << p;
                }
            }
            return bits;
        }

        int howManyAreNotThere() {
            return plan.people - Integer.bitCount(peopleWho(THERE));
        }

        int ridersIn(int wanted) {
            int bits = 0;
            for (int p = 0; p < plan.people; p++) {
                if (state[p] == RIDES && inCabin[p] == wanted) {
                    bits |= 1 << p;
                }
            }
            return bits;
        }

        int roomLeft(int wanted) {
            int left = plan.room;
            for (int p = 0; p < plan.people; p++) {
                if (state[p] == RIDES && inCabin[p] == wanted) {
                    left -= plan.kind[p].takes;
                }
            }
            return left;
        }

        int toldOf(int person, int what) {
            if (!plan.hasPerson(person)) {
                return UNKNOWN;
            }
            switch (what) {
                case STATE: return state[person];
                case CABIN: return inCabin[person];
                case RIDDEN: return ridden[person];
                default: return OUTSIDE;
            }
        }

        /** One STEP, in which those of the line who still WAIT look in its order. */
        void advance(int[] line, int length) {
            steps++;
            letOut();
            for (int i = 0; i < length && i < line.length; i++) {
                int chosen = choiceOf(line[i]);
                if (chosen != NONE) {
                    put(line[i], RIDES, chosen);
                }
            }
        }

        private void letOut() {
            for (int p = 0; p < plan.people; p++) {
                if (state[p] != RIDES) {
                    continue;
                }
                ridden[p]++;
                boolean will = !plan.kind[p].ridesRightRound() || ridden[p] >= plan.ring();
                if (will && floorAt(placeOf(inCabin[p])) == plan.to[p]) {
                    state[p] = THERE;
                    inCabin[p] = NONE;
                }
            }
        }

        /** The cabin into which one would step now, if one waits and there is such a one. */
        int choiceOf(int person) {
            if (!isWaiting(person)) {
                return NONE;
            }
            Kind kind = plan.kind[person];
            int from = plan.from[person];
            int up = cabinAt(from);
            int down = cabinAt(plan.ring() - 1 - from);
            boolean upFirst = kind.looksUpFirst() || plan.to[person] > from;
            int first = upFirst ? up : down;
            if (suits(kind, first)) {
                return first;
            }
            int second = upFirst ? down : up;
            return kind.looksAtBoth() && suits(kind, second) ? second : NONE;
        }

        private boolean suits(Kind kind, int cabin) {
            if (isShut(cabin) || roomLeft(cabin) < kind.takes) {
                return false;
            }
            return !kind.wantsItEmpty() || ridersIn(cabin) == 0;
        }
    }

    /** What can be undone, and what is kept. */
    private static final class Past {
        final House[] before = new House[MOST_UNDONE];
        final House[] kept = new House[MOST_KEPT];
        final boolean[] isKept = new boolean[MOST_KEPT];
        int undoable;
        private int next;

        Past(Plan plan) {
            for (int i = 0; i < MOST_UNDONE; i++) {
                before[i] = new House(plan);
            }
            for (int i = 0; i < MOST_KEPT; i++) {
                kept[i] = new House(plan);
            }
        }

        void clear() {
            undoable = 0;
            for (int i = 0; i < MOST_KEPT; i++) {
                isKept[i] = false;
            }
        }

        void push(House now) {
            before[next].take(now);
            next = next + 1 < MOST_UNDONE ? next + 1 : 0;
            undoable = Math.min(undoable + 1, MOST_UNDONE);
        }

        boolean takeBack(House now) {
            if (undoable < 1) {
                return false;
            }
            next = next > 0 ? next - 1 : MOST_UNDONE - 1;
            undoable--;
            now.take(before[next]);
            return true;
        }
    }

    /** THE TEXT, and what it would tell if its clauses were done. */
    private static final class Reader {
        private static final int BLANK = ' ', SEMICOLON = ';';
        private static final int LETTERS = 1, DIGITS = 2, ANY_OTHER = 3;

        final int[] letters = new int[MOST_LETTERS];
        int length;
        final Plan draft = new Plan();
        int clauses;
        private int begin;
        private int end;

        boolean append(int letter) {
            if (length >= MOST_LETTERS) {
                return false;
            }
            letters[length] = letter;
            length++;
            return true;
        }

        /** The place of the FAULT, or NONE; then the draft is what would be told. */
        int readText(Plan told) {
            draft.take(told);
            clauses = 0;
            end = 0;
            while (clauses < MOST_CLAUSES) {
                if (!readClause()) {
                    return begin;
                }
                clauses++;
                nextToken();
                if (begin >= length) {
                    return NONE;
                }
                if (letters[begin] != SEMICOLON) {
                    return begin;
                }
            }
            // The ; behind the last clause that there may be has nothing to stand between.
            return begin;
        }

        private boolean readClause() {
            nextToken();
            if (spells("hall")) {
                return readHall();
            }
            if (spells("room")) {
                return readRoom();
            }
            if (spells("shut")) {
                return readShut();
            }
            for (int number = 0; number < MOST_KINDS; number++) {
                Kind kind = Kind.numbered(number);
                if (spells(kind.word)) {
                    return !draft.isCrowded() && readPerson(kind);
                }
            }
            return false;
        }

        private boolean readHall() {
            int floors = readNumber(2, MOST_FLOORS);
            if (floors == NONE) {
                return false;
            }
            draft.clear(floors);
            return true;
        }

        private boolean readRoom() {
            int room = readNumber(1, 4);
            if (room == NONE) {
                return false;
            }
            draft.room = room;
            return true;
        }

        private boolean readShut() {
            int cabin = readNumber(0, draft.ring() - 1);
            if (cabin == NONE) {
                return false;
            }
            draft.shutCabins |= 1 << cabin;
            return true;
        }

        private boolean readPerson(Kind kind) {
            int from = readNumber(0, draft.floors - 1);
            if (from == NONE) {
                return false;
            }
            int to = readNumber(0, draft.floors - 1);
            if (to == NONE || to == from) {
                return false;
            }
            draft.admit(kind, from, to);
            return true;
        }

        private int readNumber(int least, int most) {
            nextToken();
            if (begin >= length || sortOf(letters[begin]) != DIGITS || end - begin > 2) {
                return NONE;
            }
            int number = 0;
            for (int i = begin; i < end; i++) {
                number = 10 * number + letters[i] - '0';
            }
            return within(number, least, most) ? number : NONE;
        }

        private boolean spells(String word) {
            if (end - begin != word.length()) {
                return false;
            }
            for (int i = begin; i < end; i++) {
                if (letters[i] != word.charAt(i - begin)) {
                    return false;
                }
            }
            return true;
        }

        private void nextToken() {
            begin = end;
            while (begin < length && letters[begin] == BLANK) {
                begin++;
            }
            end = begin;
            if (begin >= length) {
                return;
            }
            int sort = sortOf(letters[begin]);
            end++;
            while (sort != ANY_OTHER && end < length && sortOf(letters[end]) == sort) {
                end++;
            }
        }

        private static int sortOf(int letter) {
            if (letter >= 'a' && letter <= 'z') {
                return LETTERS;
            }
            return letter >= '0' && letter <= '9' ? DIGITS : ANY_OTHER;
        }
    }

    /** What comes of the house as it is now; what never comes is told as 61 STEPS, as ORDER counts it. */
    private static final class Foresight {
        private final House now;
        private final House later;
        final int[] best = new int[MOST_LOOKING];
        private final int[] line = new int[MOST_LOOKING];
        int waiting;
        int least;
        // Finding the order is by far the dearest call, and it is asked for place by place.
        boolean orderKnown;

        Foresight(House now) {
            this.now = now;
            this.later = new House(now.plan);
        }

        House houseBehind(int n) {
            later.take(now);
            for (int t = 0; t < n; t++) {
                later.advance(RISING, MOST_PEOPLE);
            }
            return later;
        }

        int arrivalOf(int person) {
            later.take(now);
            for (int t = 0; t <= MOST_AHEAD; t++) {
                if (later.toldOf(person, STATE) == THERE) {
                    return t;
                }
                later.advance(RISING, MOST_PEOPLE);
            }
            return NEVER;
        }

        int lastArrival(int shutCabins) {
            later.take(now);
            later.shutCabins = shutCabins;
            for (int t = 0; t <= MOST_AHEAD; t++) {
                if (later.howManyAreNotThere() == 0) {
                    return t;
                }
                later.advance(RISING, MOST_PEOPLE);
            }
            return NEVER;
        }

        int firstMeeting(int person, int other) {
            later.take(now);
            for (int t = 0; t <= MOST_AHEAD; t++) {
                int cabin = later.toldOf(person, CABIN);
                if (cabin >= 0 && cabin == later.toldOf(other, CABIN)) {
                    return t;
                }
                later.advance(RISING, MOST_PEOPLE);
            }
            return NEVER;
        }

        int worstCabin() {
            int worst = NONE;
            int latest = NONE;
            for (int cabin = 0; cabin < now.plan.ring(); cabin++) {
                if (!now.isShut(cabin)) {
                    int last = lastArrival(now.shutCabins | 1 << cabin);
                    if (last > latest) {
                        worst = cabin;
                        latest = last;
                    }
                }
            }
            return worst;
        }

        int chancesToRide(int person, int n) {
            later.take(now);
            later.leaveAlone(person);
            int chances = 0;
            for (int t = 0; t < n; t++) {
                later.advance(line, 0);
                if (later.choiceOf(person) != NONE) {
                    chances++;
                }
            }
            return chances;
        }

        /** Tries the lines from the first to the last, so that of several the first one stays. */
        void findOrder() {
            if (orderKnown) {
                return;
            }
            lineUpRising();
            least = MOST_PEOPLE * NEVER + 1;
            for (int tried = 0; tried < MOST_LINES; tried++) {
                int together = hasLikeOneAhead() ? least : arrivalsTogether();
                if (together < least) {
                    least = together;
                    System.arraycopy(line, 0, best, 0, waiting);
                }
                if (!nextLine()) {
                    break;
                }
            }
            orderKnown = true;
        }

        private void lineUpRising() {
            waiting = 0;
            for (int p = 0; p < MOST_PEOPLE && waiting < MOST_LOOKING; p++) {
                if (now.isWaiting(p)) {
                    line[waiting] = p;
                    waiting++;
                }
            }
        }

        /** All arrivals together, or, as soon as that can't be less than the least, what they have come to. */
        private int arrivalsTogether() {
            later.take(now);
            int together = 0;
            int unriddenSince = 0;
            for (int t = 0; t <= MOST_AHEAD && together < least; t++) {
                int missing = later.howManyAreNotThere();
                if (missing == 0) {
                    break;
                }
                unriddenSince = later.peopleWho(RIDES) == 0 ? unriddenSince + 1 : 0;
                // Who found nothing in a whole turn of empty cabins will never find anything.
                if (unriddenSince > now.plan.ring()) {
                    return together + missing * (NEVER - t);
                }
                together += missing;
                later.advance(line, waiting);
            }
            return together;
        }

        /** Whether two neighbours in the line could change places for an earlier line that comes to the same. */
        private boolean hasLikeOneAhead() {
            for (int i = 0; i + 1 < waiting; i++) {
                if (line[i] > line[i + 1] && mayChangePlaces(line[i], line[i + 1])) {
                    return true;
                }
            }
            return false;
        }

        private boolean mayChangePlaces(int a, int b) {
            Plan plan = now.plan;
            boolean sameCabins = plan.from[a] == plan.from[b];
            boolean twins = plan.kind[a] == plan.kind[b] && plan.to[a] == plan.to[b];
            return !sameCabins || twins;
        }

        private boolean nextLine() {
            int i = waiting - 2;
            while (i >= 0 && line[i] > line[i + 1]) {
                i--;
            }
            if (i < 0) {
                return false;
            }
            int j = waiting - 1;
            while (j > i && line[j] < line[i]) {
                j--;
            }
            swap(i, j);
            for (int a = i + 1, b = waiting - 1; a < b; a++, b--) {
                swap(a, b);
            }
            return true;
        }

        private void swap(int a, int b) {
            int held = line[a];
            line[a] = line[b];
            line[b] = held;
        }
    }

    /** How long people of unknown kind took, each alone in an open house. */
    private static final class Sightings {
        private final int[] from = new int[MOST_SEEN];
        private final int[] to = new int[MOST_SEEN];
        private final int[] took = new int[MOST_SEEN];
        int size;
        private final Plan plan = new Plan();
        private final House house = new House(plan);
        private final int[] times = new int[MOST_KINDS];

        boolean note(int newFrom, int newTo, int newTook) {
            if (size >= MOST_SEEN) {
                return false;
            }
            from[size] = newFrom;
            to[size] = newTo;
            took[size] = newTook;
            size++;
            return true;
        }

        int fittingKinds(int floors) {
            int bits = 0;
            for (int k = 0; k < MOST_KINDS; k++) {
                if (fitsAll(floors, Kind.numbered(k))) {
                    bits |= 1 << k;
                }
            }
            return bits;
        }

        private boolean fitsAll(int floors, Kind kind) {
            for (int s = 0; s < size; s++) {
                if (timeAlone(floors, kind, from[s], to[s]) != took[s]) {
                    return false;
                }
            }
            return true;
        }

        private int timeAlone(int floors, Kind kind, int a, int b) {
            plan.clear(floors);
            plan.room = 4;
            plan.admit(kind, a, b);
            house.begin();
            for (int t = 1; t <= MOST_AHEAD; t++) {
                house.advance(RISING, 1);
                if (house.toldOf(0, STATE) == THERE) {
                    return t;
                }
            }
            return NEVER;
        }

        int bestQuestion(int floors, int kinds) {
            int fewest = Integer.bitCount(kinds);
            int question = NONE;
            for (int a = 0; a < floors; a++) {
                for (int b = 0; b < floors; b++) {
                    int alike = a == b ? fewest : mostAlike(floors, kinds, a, b);
                    if (alike < fewest) {
                        fewest = alike;
                        question = 10 * a + b;
                    }
                }
            }
            return question;
        }

        private int mostAlike(int floors, int kinds, int a, int b) {
            int most = 0;
            for (int k = 0; k < MOST_KINDS; k++) {
                times[k] = (kinds & 1 << k) == 0 ? NONE : timeAlone(floors, Kind.numbered(k), a, b);
            }
            for (int k = 0; k < MOST_KINDS; k++) {
                if (times[k] != NONE) {
                    most = Math.max(most, howManyTook(times[k]));
                }
            }
            return most;
        }

        private int howManyTook(int time) {
            int many = 0;
            for (int k = 0; k < MOST_KINDS; k++) {
                many += times[k] == time ? 1 : 0;
            }
            return many;
        }
    }

    /** One row of NOTES. Callers have tested the places that they give. */
    private static final class Notes {
        static final int LIFT = 50000;
        private static final int SPAN = 100000;

        boolean missing = true;
        int size;
        final int[] things = new int[MOST_THINGS];

        // One number holds what a thing is and its value, so that a thing moves as one.
        static int thing(int what, int v) {
            return what * SPAN + v + LIFT;
        }

        static int sortOf(int thing) {
            return thing / SPAN;
        }

        static int valueOf(int thing) {
            return thing % SPAN - LIFT;
        }

        void setIn(int place, int[] from, int many) {
            System.arraycopy(things, place, things, place + many, size - place);
            System.arraycopy(from, 0, things, place, many);
            size += many;
        }

        void takeOut(int i, int j) {
            System.arraycopy(things, j, things, i, size - j);
            size -= j - i;
        }

        void readInto(int[] into, int i, int j) {
            System.arraycopy(things, i, into, 0, j - i);
        }

        void rotate(int i, int j, int d) {
            if (j <= i) {
                return;
            }
            int on = Math.floorMod(d, j - i);
            flip(i, j);
            flip(i, i + on);
            flip(i + on, j);
        }

        void flip(int i, int j) {
            for (int a = i, b = j - 1; a < b; a++, b--) {
                int held = things[a];
                things[a] = things[b];
                things[b] = held;
            }
        }

        int howMany(int thing) {
            int many = 0;
            for (int p = 0; p < size; p++) {
                many += things[p] == thing ? 1 : 0;
            }
            return many;
        }
    }
}
