import java.util.Arrays;

/**
 * A school of falling: a ground of cells with heights, people, things, nets and lessons; falls by a
 * law told in a language, and questions about them. ../shared/DOC.md tells every promise.
 *
 * The machine never throws here: every argument is tested at the face, and every text's numbers
 * are tested where they are read, so that what the classes inside are given always fits their rows.
 */
public final class FallSchool {
    public static final int NONE = -1;

    private static final int NOT_SUCH = -2;
    private static final int NO_WAY = -3;

    private static final int MOST_BYTES = 400;
    private static final int BYTES_A_FEED = 20;
    private static final int MOST_CELLS = 48;
    private static final int MOST_STEPS = 9;
    private static final int MOST_PEOPLE = 5;
    private static final int MOST_THINGS = 8;
    private static final int MOST_NETS = 4;
    private static final int MOST_LESSONS = 8;
    private static final int MOST_AFTERS = 10;
    private static final int MOST_GROUND_CLAUSES = 40;
    private static final int MOST_RULES = 6;
    private static final int MOST_RULE_CLAUSES = 12;
    private static final int MOST_CLUES = 8;
    private static final int MOST_ACTS = 20;
    private static final int MOST_IMAGES = 4;
    private static final int MOST_TRAYS = 3;
    private static final int MOST_PRICE = 60;
    private static final int MOST_TERMS = 20;
    private static final int MOST_TERM_FALLS = 40;

    private static final int SIDES = 4;
    private static final int LEANS = 5;
    private static final int BEST_MARK = 100;

    private final Tape tape = new Tape();
    private final GroundReader groundReader = new GroundReader(tape);
    private final RuleReader ruleReader = new RuleReader(tape);
    private final Rule noRule = new Rule(ruleReader);
    private final Rule[] rules = new Rule[MOST_RULES];
    private int ruleCount = 0;
    private final School school = new School(groundReader.draft);
    private final School spare = new School(groundReader.draft);
    private final School[] images = new School[MOST_IMAGES];
    private final Fall faller = new Fall(school, noRule);
    private final Way wayDown = new Way(faller);
    private final Origins origins = new Origins(faller);
    private final Slopes slopes = new Slopes();
    private final int[] totals = new int[3];

    public FallSchool() {
    }

    public int feed(int a, int b, int c, int d, int e) {
        if (tape.length + BYTES_A_FEED > MOST_BYTES) {
            return NONE;
        }
        tape.append(a);
        tape.append(b);
        tape.append(c);
        tape.append(d);
        tape.append(e);
        return tape.length;
    }

    public int end(int n) {
        if (n < 0 || n > tape.length) {
            return NONE;
        }
        tape.length = n;
        return n;
    }

    public int ground() {
        boolean sound = groundReader.readAll();
        tape.length = 0;
        if (!sound) {
            return NOT_SUCH - tape.fault;
        }
        school.settleOn(groundReader.draft);
        return school.land.cells;
    }

    public int rule() {
        if (ruleCount >= MOST_RULES) {
            return NONE;
        }
        boolean sound = ruleReader.readAll();
        tape.length = 0;
        if (!sound) {
            return NOT_SUCH - tape.fault;
        }
        rules[ruleCount] = new Rule(ruleReader);
        ruleCount++;
        return ruleCount - 1;
    }

    public int force(int rule) {
        if (rule < NONE || rule >= ruleCount) {
            return NOT_SUCH;
        }
        int before = school.inForce;
        school.inForce = rule;
        return before;
    }

    public int cell(int cell, int what) {
        if (!isCell(cell)) {
            return NOT_SUCH;
        }
        switch (what) {
            case 0:
                return school.land.heights[cell];
            case 1:
                return school.land.leads[cell];
            case 2:
                return school.land.hasNet(cell) ? 1 : 0;
            case 3:
                return school.peopleIn(cell);
            case 4:
                return school.thingsIn(cell);
            case 5:
                return school.land.floorUnder(cell);
            case 6:
                return school.land.stepsUnder(cell);
            default:
                return NOT_SUCH;
        }
    }

    public int person(int person, int what) {
        if (!isPerson(person)) {
            return NONE;
        }
        switch (what) {
            case 0:
                return school.personCell[person];
            case 1:
                return school.land.soft[person];
            default:
                return NONE;
        }
    }

    public int thing(int thing, int what) {
        if (!isThing(thing)) {
            return NONE;
        }
        switch (what) {
            case 0:
                return school.thingCell[thing];
            case 1:
                return school.land.owner[thing];
            case 2:
                return school.land.hard[thing];
            case 3:
                return school.land.worth[thing];
            case 4:
                return school.isBroken(thing) ? 1 : 0;
            default:
                return NONE;
        }
    }

    public int fall(int person, int side) {
        if (!isPerson(person) || !isLean(side)) {
            return NONE;
        }
        tryFall(person, side);
        school.remember(person, school.personCell[person]);
        school.personCell[person] = faller.cell;
        school.broken |= faller.broke;
        return faller.mark();
    }

    public int walk(int person, int side) {
        if (!isPerson(person) || !isSide(side)) {
            return NONE;
        }
        int before = school.personCell[person];
        int next = school.land.beside(before, side);
        if (next == NONE || Math.abs(school.land.dropTo(before, next)) > 1) {
            return NONE;
        }
        school.remember(person, before);
        school.personCell[person] = next;
        return next;
    }

    public int put(int thing, int cell) {
        if (!isThing(thing) || !isCell(cell) || school.isBroken(thing)) {
            return NONE;
        }
        int before = school.thingCell[thing];
        if (before == cell) {
            return NONE;
        }
        school.remember(MOST_PEOPLE + thing, before);
        school.thingCell[thing] = cell;
        return before;
    }

    public boolean mend(int thing) {
        if (!isThing(thing) || !school.isBroken(thing)) {
            return false;
        }
        school.remember(MOST_PEOPLE + thing, school.thingCell[thing]);
        school.broken &= ~(1 << thing);
        return true;
    }

    public int undo() {
        if (school.acts < 1) {
            return NOT_SUCH;
        }
        school.takeBack();
        return school.acts;
    }

    public int would(int person, int side, int what) {
        if (!isPerson(person) || !isLean(side)) {
            return NONE;
        }
        tryFall(person, side);
        switch (what) {
            case 0:
                return faller.mark();
            case 1:
                return faller.push;
            case 2:
                return faller.broke;
            case 3:
                return faller.cell;
            case 4:
                return faller.steps;
            default:
                return NONE;
        }
    }

    public int lean(int person) {
        if (!isPerson(person)) {
            return NONE;
        }
        int best = NONE;
        int bestMark = 0;
        int bestHurt = 0;
        for (int side = 0; side < LEANS; side++) {
            tryFall(person, side);
            int mark = faller.mark();
            if (best == NONE || mark > bestMark || mark == bestMark && faller.push < bestHurt) {
                best = side;
                bestMark = mark;
                bestHurt = faller.push;
            }
        }
        return best;
    }

    public int way(int person, int what) {
        if (!isPerson(person) || what < NOT_SUCH) {
            return NO_WAY;
        }
        wayDown.seek(school, law(), person);
        if (what == NONE) {
            return wayDown.bestWorth;
        }
        if (what == NOT_SUCH) {
            return wayDown.bestSteps;
        }
        return what < wayDown.bestSteps ? wayDown.bestSides[what] : NOT_SUCH;
    }

    public int clue(int thing, boolean broke) {
        if (thing == NONE) {
            school.forgetClues();
            return 0;
        }
        if (!isThing(thing) || school.clues >= MOST_CLUES) {
            return NOT_SUCH;
        }
        school.addClue(thing, broke);
        return school.clues;
    }

    public int from(int person, int what) {
        if (!isPerson(person) || what < 0 || what > 2) {
            return NONE;
        }
        origins.seek(school, law(), person);
        if (what == 0) {
            return origins.found;
        }
        if (origins.found == 0) {
            return NOT_SUCH;
        }
        return what == 1 ? origins.firstCell : origins.firstSide;
    }

    public int shard(int person, int what) {
        if (!isPerson(person) || what < 0 || what > 1) {
            return NONE;
        }
        origins.seek(school, law(), person);
        int best = origins.found == 0 ? NONE : origins.bestShard(school.land.things);
        if (best == NONE) {
            return NOT_SUCH;
        }
        return what == 0 ? best : origins.greaterPart(best);
    }

    public int trays(int n, int what) {
        if (school.land.cells == 0 || n < 1 || n > MOST_TRAYS || what < 0 || what > MOST_TRAYS) {
            return NONE;
        }
        slopes.setTrays(school.land, n);
        if (what == 0) {
            return slopes.traySets;
        }
        if (what > n || slopes.traySets == 0) {
            return NOT_SUCH;
        }
        return slopes.firstTrays[what - 1];
    }

    public int game(int cell, int what) {
        if (!isCell(cell) || what < 0 || what > 1) {
            return NONE;
        }
        int side = slopes.winningSide(school.land, cell);
        if (what == 0) {
            return side == NONE ? 0 : 1;
        }
        return side == NONE ? NOT_SUCH : side;
    }

    public long chance(int cell, int other, int part) {
        if (!isCell(cell) || !isCell(other) || part < 0 || part > 1) {
            return NONE;
        }
        long below = Slopes.twelveTo(school.land.heights[cell]);
        long above = slopes.shareOfTwelfths(school.land, cell, other);
        long common = Slopes.commonDivisor(below, above);
        if (common < 1) {
            return NONE;
        }
        return part == 0 ? above / common : below / common;
    }

    public int insure(int person, int price) {
        if (!isPerson(person) || price < 0 || price > MOST_PRICE) {
            return NONE;
        }
        // Of each side a byte of its own, with a bit for each thing.
        int brokeBySide = 0;
        for (int side = 0; side < SIDES; side++) {
            tryFall(person, side);
            brokeBySide |= faller.broke << (MOST_THINGS * side);
        }
        int bits = 0;
        for (int thing = 0; thing < school.land.things; thing++) {
            int breaks = Integer.bitCount(brokeBySide & (0x01010101 << thing));
            boolean isOwn = school.land.owner[thing] == person;
            if (!isOwn && school.land.worth[thing] * breaks > SIDES * price) {
                bits |= 1 << thing;
            }
        }
        return bits;
    }

    public int lesson(int lesson) {
        Lessons lessons = school.land.lessons;
        if (lesson < 0 || lesson >= lessons.told) {
            return NONE;
        }
        return lessons.ends[lesson] == NONE ? NOT_SUCH : lessons.ends[lesson];
    }

    public int order(int k) {
        Lessons lessons = school.land.lessons;
        if (school.land.cells == 0 || k < 0) {
            return NONE;
        }
        return k < lessons.rowLength ? lessons.row[k] : NOT_SUCH;
    }

    public int seed(int x) {
        if (x < 0) {
            return NONE;
        }
        int before = school.x;
        school.x = x;
        return before;
    }

    public int terms(int m, int n, int what) {
        if (school.land.cells == 0 || m < 1 || m > MOST_TERMS || n < 1 || n > MOST_TERM_FALLS) {
            return NONE;
        }
        if (what < 0 || what > 2) {
            return NONE;
        }
        Arrays.fill(totals, 0);
        int x = school.x;
        for (int term = 0; term < m; term++) {
            spare.copyFrom(school);
            spare.x = x;
            playTerm(n);
            x = spare.x;
        }
        return totals[what];
    }

    public int count(int what) {
        Ground land = school.land;
        switch (what) {
            case 0:
                return land.columns;
            case 1:
                return land.rows;
            case 2:
                return land.people;
            case 3:
                return land.things;
            case 4:
                return land.netCount();
            case 5:
                return land.lessons.told;
            case 6:
                return land.lessons.afters;
            case 7:
                return ruleCount;
            case 8:
                return school.inForce;
            case 9:
                return school.broken;
            case 10:
                return school.clues;
            case 11:
                return school.acts;
            case 12:
                return school.x;
            case 13:
                return tape.length;
            default:
                return NONE;
        }
    }

    public int image(int k) {
        if (k < 0 || k >= MOST_IMAGES) {
            return NONE;
        }
        if (images[k] == null) {
            images[k] = new School(school.land);
        }
        images[k].copyFrom(school);
        return Integer.bitCount(school.broken);
    }

    public int back(int k) {
        if (k < 0 || k >= MOST_IMAGES || images[k] == null) {
            return NONE;
        }
        school.copyFrom(images[k]);
        return Integer.bitCount(school.broken);
    }

    private boolean isCell(int cell) {
        return cell >= 0 && cell < school.land.cells;
    }

    private boolean isPerson(int person) {
        return person >= 0 && person < school.land.people;
    }

    private boolean isThing(int thing) {
        return thing >= 0 && thing < school.land.things;
    }

    private static boolean isSide(int side) {
        return side >= 0 && side < SIDES;
    }

    private static boolean isLean(int side) {
        return side >= 0 && side < LEANS;
    }

    /** A rule without clauses stands for none: both leave breaking and marks to the school's own law. */
    private Rule law() {
        int rule = school.inForce;
        if (rule < 0 || rule >= ruleCount || rules[rule] == null) {
            return noRule;
        }
        return rules[rule];
    }

    private void tryFall(int person, int side) {
        faller.begin(school, law(), person);
        faller.run(side);
    }

    private void playTerm(int falls) {
        int people = spare.land.people;
        int cells = spare.land.cells;
        if (people < 1 || cells < 1) {
            return;
        }
        for (int i = 0; i < falls; i++) {
            int person = spare.nextDraw() % people;
            spare.personCell[person] = spare.nextDraw() % cells;
            int side = spare.nextDraw() % LEANS;
            faller.begin(spare, law(), person);
            faller.run(side);
            spare.personCell[person] = faller.cell;
            spare.broken |= faller.broke;
            totals[0] += faller.mark();
            totals[1] += Integer.bitCount(faller.broke);
            totals[2] += faller.push;
        }
    }

    /** The tape, and how its text is read: blanks, words and numbers, up to the first fault. */
    private static final class Tape {
        static final int END = -1;
        static final int CANT_STAND = 0;
        static final int NOT_AS_TOLD = 1;
        static final int TOO_DEEP = 2;
        static final int TOO_MANY_PARTS = 3;
        static final int TOO_MANY_CLAUSES = 4;
        static final int MOST_DIGITS = 5;

        final byte[] bytes = new byte[MOST_BYTES];
        // Never above MOST_BYTES: a place below it is a place in the row.
        int length = 0;
        int place = 0;
        int fault = 0;

        void append(int four) {
            for (int shift = 24; shift >= 0; shift -= 8) {
                if (length < bytes.length) {
                    bytes[length] = (byte) (four >> shift);
                    length++;
                }
            }
        }

        void rewind() {
            place = 0;
            fault = 0;
        }

        boolean isSound() {
            return fault == 0;
        }

        /** Only the first fault counts: of one place the readers look for the least kind first. */
        void fail(int at, int kind) {
            if (fault == 0) {
                fault = 1 + 8 * at + kind;
            }
        }

        int byteAt(int at) {
            return at >= 0 && at < length ? bytes[at] & 255 : END;
        }

        boolean isDigitAt(int at) {
            return at >= 0 && at < length && bytes[at] >= '0' && bytes[at] <= '9';
        }

        /** The next place that has no blank. */
        int skipBlanks() {
            while (place < length && bytes[place] == ' ') {
                place++;
            }
            return place;
        }

        boolean takesByte(int sign) {
            if (!isSound() || byteAt(skipBlanks()) != sign) {
                return false;
            }
            place++;
            return true;
        }

        /** Takes the next byte if it is one of these signs: which; else NONE, and it is not taken. */
        int takeOneOf(String signs) {
            int next = byteAt(skipBlanks());
            for (int i = 0; i < signs.length(); i++) {
                if (isSound() && next == signs.charAt(i)) {
                    place++;
                    return i;
                }
            }
            return NONE;
        }

        /**
         * Takes the word at the place, if a list that has a blank behind each word has it: its number
         * there; else NONE, and it is not taken.
         */
        int takeWord(String list) {
            int size = 0;
            while (place + size < length && byteAt(place + size) >= 'a' && byteAt(place + size) <= 'z') {
                size++;
            }
            int number = 0;
            int spelt = 0;
            boolean same = true;
            for (int i = 0; i < list.length(); i++) {
                if (list.charAt(i) != ' ') {
                    same = same && list.charAt(i) == byteAt(place + spelt);
                    spelt++;
                } else if (same && spelt == size) {
                    place += size;
                    return number;
                } else {
                    number++;
                    spelt = 0;
                    same = true;
                }
            }
            return NONE;
        }

        boolean takesWord(String wordAndBlank) {
            skipBlanks();
            return isSound() && takeWord(wordAndBlank) == 0;
        }

        /** What a number behind a fault is, no one may use: the callers ask isSound() first. */
        int readNumber(int least, int most) {
            if (!isSound()) {
                return 0;
            }
            int start = skipBlanks();
            if (!isDigitAt(start)) {
                fail(start, CANT_STAND);
                return 0;
            }
            int value = 0;
            while (place < length && isDigitAt(place)) {
                if (place - start < MOST_DIGITS) {
                    value = 10 * value + byteAt(place) - '0';
                }
                place++;
            }
            if (place - start > MOST_DIGITS || value < least || value > most) {
                fail(start, NOT_AS_TOLD);
            }
            return value;
        }

        /** Whether another clause follows; anything but that or the end is a fault. */
        boolean goesOn() {
            if (takesByte(';')) {
                return true;
            }
            if (skipBlanks() < length) {
                fail(place, CANT_STAND);
            }
            return false;
        }
    }

    /** The ground as told: it never changes once it is read, so that images can share it. */
    private static final class Ground {
        int columns = 0;
        int rows = 0;
        int cells = 0;
        final int[] heights = new int[MOST_CELLS];
        final int[] leads = new int[MOST_CELLS];
        long nets = 0;
        int people = 0;
        final int[] personStart = new int[MOST_PEOPLE];
        final int[] soft = new int[MOST_PEOPLE];
        int things = 0;
        final int[] thingStart = new int[MOST_THINGS];
        final int[] owner = new int[MOST_THINGS];
        final int[] hard = new int[MOST_THINGS];
        final int[] worth = new int[MOST_THINGS];
        final Lessons lessons = new Lessons();

        boolean hasNet(int cell) {
            return ((nets >> cell) & 1) != 0;
        }

        int netCount() {
            return Long.bitCount(nets);
        }

        int beside(int cell, int side) {
            if (columns < 1) {
                return NONE;
            }
            int column = cell % columns;
            switch (side) {
                case 0:
                    return cell >= columns ? cell - columns : NONE;
                case 1:
                    return column + 1 < columns ? cell + 1 : NONE;
                case 2:
                    return cell + columns < cells ? cell + columns : NONE;
                case 3:
                    return column > 0 ? cell - 1 : NONE;
                default:
                    return NONE;
            }
        }

        int dropTo(int cell, int next) {
            return heights[cell] - heights[next];
        }

        int lowerBeside(int cell, int side) {
            int next = beside(cell, side);
            return next != NONE && dropTo(cell, next) > 0 ? next : NONE;
        }

        void findLeads() {
            for (int cell = 0; cell < cells; cell++) {
                int lowest = NONE;
                for (int side = 0; side < SIDES; side++) {
                    int next = lowerBeside(cell, side);
                    if (next != NONE && (lowest == NONE || heights[next] < heights[lowest])) {
                        lowest = next;
                    }
                }
                leads[cell] = lowest;
            }
        }

        int floorUnder(int cell) {
            int at = cell;
            for (int i = 0; i < MOST_STEPS && leads[at] != NONE; i++) {
                at = leads[at];
            }
            return at;
        }

        int stepsUnder(int cell) {
            int at = cell;
            int steps = 0;
            while (steps < MOST_STEPS && leads[at] != NONE) {
                at = leads[at];
                steps++;
            }
            return steps;
        }
    }

    /** Lessons, the row in which they come, and when each ends. */
    private static final class Lessons {
        int told = 0;
        final int[] hours = new int[MOST_LESSONS];
        int afters = 0;
        final int[] later = new int[MOST_AFTERS];
        final int[] sooner = new int[MOST_AFTERS];
        final int[] ends = new int[MOST_LESSONS];
        final int[] row = new int[MOST_LESSONS];
        int rowLength = 0;

        void setInRow() {
            Arrays.fill(ends, NONE);
            rowLength = 0;
            for (int i = 0; i < told; i++) {
                int next = leastNext();
                if (next == NONE) {
                    return;
                }
                ends[next] = startOf(next) + hours[next];
                row[rowLength] = next;
                rowLength++;
            }
        }

        private int leastNext() {
            for (int lesson = 0; lesson < told; lesson++) {
                if (ends[lesson] == NONE && startOf(lesson) != NONE) {
                    return lesson;
                }
            }
            return NONE;
        }

        /** When it can begin; NONE while one that it comes after has no end. */
        private int startOf(int lesson) {
            int start = 0;
            for (int i = 0; i < afters; i++) {
                if (later[i] == lesson) {
                    if (ends[sooner[i]] == NONE) {
                        return NONE;
                    }
                    start = Math.max(start, ends[sooner[i]]);
                }
            }
            return start;
        }
    }

    /** Reads a text as a ground. */
    private static final class GroundReader {
        static final String CLAUSES = "ground row person thing net lesson after ";
        static final int GROUND = 0;
        static final int ROW = 1;
        static final int PERSON = 2;
        static final int THING = 3;
        static final int NET = 4;
        static final int LESSON = 5;
        static final int AFTER = 6;
        static final int OF_THE_SCHOOL = 9;

        final Tape tape;
        Ground draft = new Ground();
        int rowsTold = 0;

        GroundReader(Tape tape) {
            this.tape = tape;
        }

        boolean readAll() {
            tape.rewind();
            draft = new Ground();
            rowsTold = 0;
            boolean more = true;
            for (int clause = 0; clause <= MOST_GROUND_CLAUSES && more; clause++) {
                readClause(clause);
                more = tape.isSound() && tape.goesOn();
            }
            if (tape.isSound()) {
                draft.findLeads();
                draft.lessons.setInRow();
            }
            return tape.isSound();
        }

        private void readClause(int clause) {
            int at = tape.skipBlanks();
            int kind = tape.takeWord(CLAUSES);
            if (kind == NONE) {
                tape.fail(at, Tape.CANT_STAND);
                return;
            }
            boolean misplaced = (clause == 0) != (kind == GROUND);
            if (misplaced || clause >= MOST_GROUND_CLAUSES || isFull(kind)) {
                tape.fail(at, Tape.TOO_MANY_CLAUSES);
                return;
            }
            switch (kind) {
                case GROUND:
                    readSize();
                    break;
                case ROW:
                    readRow();
                    break;
                case PERSON:
                    readPerson();
                    break;
                case THING:
                    readThing();
                    break;
                case NET:
                    readNet();
                    break;
                case LESSON:
                    readLesson();
                    break;
                default:
                    readAfter();
                    break;
            }
        }

        private boolean isFull(int kind) {
            switch (kind) {
                case ROW:
                    return rowsTold >= draft.rows;
                case PERSON:
                    return draft.people >= MOST_PEOPLE;
                case THING:
                    return draft.things >= MOST_THINGS;
                case NET:
                    return draft.netCount() >= MOST_NETS;
                case LESSON:
                    return draft.lessons.told >= MOST_LESSONS;
                case AFTER:
                    return draft.lessons.afters >= MOST_AFTERS;
                default:
                    return false;
            }
        }

        private void readSize() {
            int columns = tape.readNumber(2, 8);
            int rows = tape.readNumber(2, 6);
            if (tape.isSound()) {
                draft.columns = columns;
                draft.rows = rows;
                draft.cells = columns * rows;
            }
        }

        private void readRow() {
            tape.skipBlanks();
            int first = rowsTold * draft.columns;
            for (int column = 0; column < draft.columns; column++) {
                if (!tape.isDigitAt(tape.place)) {
                    tape.fail(tape.place, Tape.CANT_STAND);
                    return;
                }
                draft.heights[first + column] = tape.byteAt(tape.place) - '0';
                tape.place++;
            }
            rowsTold++;
        }

        private int readCell() {
            return tape.readNumber(0, draft.cells - 1);
        }

        private void readPerson() {
            int cell = readCell();
            int soft = tape.readNumber(0, 9);
            if (tape.isSound()) {
                draft.personStart[draft.people] = cell;
                draft.soft[draft.people] = soft;
                draft.people++;
            }
        }

        private void readThing() {
            int cell = readCell();
            int owner = readOwner();
            int hard = tape.readNumber(1, 30);
            int worth = tape.readNumber(0, 60);
            if (tape.isSound()) {
                draft.thingStart[draft.things] = cell;
                draft.owner[draft.things] = owner;
                draft.hard[draft.things] = hard;
                draft.worth[draft.things] = worth;
                draft.things++;
            }
        }

        private int readOwner() {
            int at = tape.skipBlanks();
            int owner = tape.readNumber(0, OF_THE_SCHOOL);
            if (owner >= draft.people && owner != OF_THE_SCHOOL) {
                tape.fail(at, Tape.NOT_AS_TOLD);
            }
            return owner;
        }

        private void readNet() {
            int at = tape.skipBlanks();
            int cell = readCell();
            if (!tape.isSound()) {
                return;
            }
            if (draft.hasNet(cell)) {
                tape.fail(at, Tape.NOT_AS_TOLD);
                return;
            }
            draft.nets |= 1L << cell;
        }

        private void readLesson() {
            int hours = tape.readNumber(1, 20);
            if (tape.isSound()) {
                draft.lessons.hours[draft.lessons.told] = hours;
                draft.lessons.told++;
            }
        }

        private void readAfter() {
            Lessons lessons = draft.lessons;
            int later = tape.readNumber(0, lessons.told - 1);
            int at = tape.skipBlanks();
            int sooner = tape.readNumber(0, lessons.told - 1);
            if (later == sooner) {
                tape.fail(at, Tape.NOT_AS_TOLD);
            }
            if (tape.isSound()) {
                lessons.later[lessons.afters] = later;
                lessons.sooner[lessons.afters] = sooner;
                lessons.afters++;
            }
        }
    }

    /** A rule's clauses as codes, operands ahead of what joins them. */
    private static final class Rule {
        static final int BREAK = 0;
        static final int MARK = 1;

        static final int W_PERSON = 0;
        static final int W_THING = 1;
        static final int W_FORCE = 2;
        static final int W_DROP = 3;
        static final int W_STEP = 4;
        static final int W_HEIGHT = 5;
        static final int W_HARD = 6;
        static final int W_WORTH = 7;
        static final int W_OWN = 8;
        static final int W_BROKEN = 9;
        static final int W_SOFT = 10;
        static final int W_PEOPLE = 11;
        static final int WORDS = 12;

        // Codes below FIRST_WORD are numbers of at most five digits.
        static final int FIRST_WORD = 100000;
        static final int NOT = FIRST_WORD + WORDS;
        static final int AND = NOT + 1;
        static final int OR = NOT + 2;
        static final int PLUS = NOT + 3;
        static final int MINUS = NOT + 4;
        static final int TIMES = NOT + 5;
        static final int DIVIDED = NOT + 6;
        static final int REST = NOT + 7;
        static final int BELOW = NOT + 8;
        static final int AT_MOST = NOT + 9;
        static final int EQUAL = NOT + 10;
        static final int AT_LEAST = NOT + 11;
        static final int ABOVE = NOT + 12;

        // Eleven tests within one another wait with two operands each, a fact with four.
        static final int STACK = 32;

        final int[] codes;
        final int clauses;
        final int[] kinds;
        final int[] sumStarts;
        final int[] testStarts;
        final int[] stops;
        final boolean tellsBreaks;
        final boolean tellsMarks;
        final long[] stack = new long[STACK];

        Rule(RuleReader reader) {
            codes = Arrays.copyOf(reader.codes, reader.length);
            clauses = reader.clauses;
            kinds = Arrays.copyOf(reader.kinds, clauses);
            sumStarts = Arrays.copyOf(reader.sumStarts, clauses);
            testStarts = Arrays.copyOf(reader.testStarts, clauses);
            stops = Arrays.copyOf(reader.stops, clauses);
            boolean breaks = false;
            boolean marks = false;
            for (int i = 0; i < clauses; i++) {
                breaks |= kinds[i] == BREAK;
                marks |= kinds[i] == MARK;
            }
            tellsBreaks = breaks;
            tellsMarks = marks;
        }

        boolean breaksBy(int[] words) {
            if (!tellsBreaks) {
                return words[W_FORCE] >= words[W_HARD];
            }
            for (int i = 0; i < clauses; i++) {
                if (kinds[i] == BREAK && worked(testStarts[i], stops[i], words) != 0) {
                    return true;
                }
            }
            return false;
        }

        int lossBy(int[] words) {
            if (!tellsMarks) {
                return words[W_OWN] == 1 ? 0 : words[W_WORTH];
            }
            for (int i = 0; i < clauses; i++) {
                boolean isFree = testStarts[i] == stops[i];
                if (kinds[i] == MARK && (isFree || worked(testStarts[i], stops[i], words) != 0)) {
                    long sum = worked(sumStarts[i], testStarts[i], words);
                    return (int) Math.max(0L, Math.min(sum, (long) BEST_MARK));
                }
            }
            return 0;
        }

        /** What the codes from one place to another come to; a test comes to 1 or 0. */
        private long worked(int start, int stop, int[] words) {
            int top = 0;
            for (int i = start; i < stop && i < codes.length; i++) {
                int code = codes[i];
                if (code < NOT) {
                    if (top < STACK) {
                        stack[top] = code < FIRST_WORD ? code : words[code - FIRST_WORD];
                        top++;
                    }
                } else if (code == NOT) {
                    if (top > 0) {
                        stack[top - 1] = 1 - stack[top - 1];
                    }
                } else if (top > 1) {
                    top--;
                    stack[top - 1] = joined(code, stack[top - 1], stack[top]);
                }
            }
            return top > 0 ? stack[0] : 0;
        }

        private static long joined(int code, long a, long b) {
            switch (code) {
                case AND:
                    return a & b;
                case OR:
                    return a | b;
                case PLUS:
                    return a + b;
                case MINUS:
                    return a - b;
                case TIMES:
                    return a * b;
                case DIVIDED:
                    return b == 0 ? 0 : a / b;
                case REST:
                    return b == 0 ? 0 : a % b;
                case BELOW:
                    return a < b ? 1 : 0;
                case AT_MOST:
                    return a <= b ? 1 : 0;
                case EQUAL:
                    return a == b ? 1 : 0;
                case AT_LEAST:
                    return a >= b ? 1 : 0;
                default:
                    return a > b ? 1 : 0;
            }
        }
    }

    /** Reads a text as a rule. */
    private static final class RuleReader {
        static final String CLAUSES = "break mark ";
        static final String WORDS = "person thing force drop step height hard worth own broken soft people ";
        // In the order of their codes.
        static final String TERM_SIGNS = "+-";
        static final String FACTOR_SIGNS = "*/%";
        static final String NOT = "not ";
        static final String AND = "and ";
        static final String OR = "or ";
        static final String IF = "if ";
        static final int MOST_DEEP = 10;
        static final int MOST_PARTS = 60;
        static final int MOST_NUMBER = 99999;

        final Tape tape;
        final int[] codes = new int[MOST_BYTES];
        int length = 0;
        int parts = 0;
        int clauses = 0;
        final int[] kinds = new int[MOST_RULE_CLAUSES];
        final int[] sumStarts = new int[MOST_RULE_CLAUSES];
        final int[] testStarts = new int[MOST_RULE_CLAUSES];
        final int[] stops = new int[MOST_RULE_CLAUSES];

        RuleReader(Tape tape) {
            this.tape = tape;
        }

        boolean readAll() {
            tape.rewind();
            length = 0;
            parts = 0;
            clauses = 0;
            boolean more = true;
            for (int clause = 0; clause <= MOST_RULE_CLAUSES && more; clause++) {
                readClause();
                more = tape.isSound() && tape.goesOn();
            }
            return tape.isSound();
        }

        private void readClause() {
            int at = tape.skipBlanks();
            int kind = tape.takeWord(CLAUSES);
            if (kind == NONE) {
                tape.fail(at, Tape.CANT_STAND);
                return;
            }
            if (clauses >= MOST_RULE_CLAUSES) {
                tape.fail(at, Tape.TOO_MANY_CLAUSES);
                return;
            }
            kinds[clauses] = kind;
            sumStarts[clauses] = length;
            if (kind == Rule.MARK) {
                readSum();
            }
            testStarts[clauses] = length;
            if (kind == Rule.BREAK || tape.takesWord(IF)) {
                readTest(0);
            }
            stops[clauses] = length;
            clauses++;
        }

        /** An or waits till the facts behind it that are joined by and have been read. */
        private void readTest(int depth) {
            readFact(depth);
            boolean orWaits = false;
            for (int i = 0; i < MOST_BYTES; i++) {
                if (tape.takesWord(AND)) {
                    readFact(depth);
                    emit(Rule.AND);
                } else {
                    if (orWaits) {
                        emit(Rule.OR);
                    }
                    if (!tape.takesWord(OR)) {
                        return;
                    }
                    orWaits = true;
                    readFact(depth);
                }
            }
        }

        private void readFact(int depth) {
            int at = tape.skipBlanks();
            boolean isBracket = tape.takesByte('[');
            boolean isNot = !isBracket && tape.takesWord(NOT);
            if ((isBracket || isNot) && depth >= MOST_DEEP) {
                tape.fail(at, Tape.TOO_DEEP);
                return;
            }
            if (isBracket) {
                readTest(depth + 1);
                if (!tape.takesByte(']')) {
                    tape.fail(tape.place, Tape.CANT_STAND);
                }
            } else if (isNot) {
                readFact(depth + 1);
                emit(Rule.NOT);
            } else {
                readSum();
                int sign = readSign();
                readSum();
                emit(sign);
            }
        }

        private int readSign() {
            int at = tape.skipBlanks();
            boolean isBelow = tape.takesByte('<');
            boolean isAbove = !isBelow && tape.takesByte('>');
            boolean isEqual = tape.byteAt(tape.place) == '=';
            if (!isBelow && !isAbove && !isEqual) {
                tape.fail(at, Tape.CANT_STAND);
                return Rule.EQUAL;
            }
            if (isEqual) {
                tape.place++;
            }
            addPart(at);
            if (isBelow) {
                return isEqual ? Rule.AT_MOST : Rule.BELOW;
            }
            if (isAbove) {
                return isEqual ? Rule.AT_LEAST : Rule.ABOVE;
            }
            return Rule.EQUAL;
        }

        /** A plus or minus waits till the term behind it has been read. */
        private void readSum() {
            int waiting = NONE;
            readValue();
            for (int i = 0; i < MOST_BYTES; i++) {
                int factorSign = tape.takeOneOf(FACTOR_SIGNS);
                if (factorSign != NONE) {
                    readValue();
                    emit(Rule.TIMES + factorSign);
                } else {
                    if (waiting != NONE) {
                        emit(Rule.PLUS + waiting);
                    }
                    waiting = tape.takeOneOf(TERM_SIGNS);
                    if (waiting == NONE) {
                        return;
                    }
                    readValue();
                }
            }
        }

        private void readValue() {
            int at = tape.skipBlanks();
            if (tape.isDigitAt(at)) {
                emit(tape.readNumber(0, MOST_NUMBER));
                addPart(at);
                return;
            }
            int word = tape.takeWord(WORDS);
            if (word == NONE) {
                tape.fail(at, Tape.CANT_STAND);
                return;
            }
            emit(Rule.FIRST_WORD + word);
            addPart(at);
        }

        private void addPart(int at) {
            parts++;
            if (parts > MOST_PARTS) {
                tape.fail(at, Tape.TOO_MANY_PARTS);
            }
        }

        /** Each code comes of a byte of its own at least, so the row is never too short for a text. */
        private void emit(int code) {
            if (tape.isSound() && length < codes.length) {
                codes[length] = code;
                length++;
            }
        }
    }

    /** All that an image keeps: the ground, who and what is where, clues, acts, the rule in force and x. */
    private static final class School {
        Ground land;
        int inForce = NONE;
        int x = 0;
        int broken = 0;
        final int[] personCell = new int[MOST_PEOPLE];
        final int[] thingCell = new int[MOST_THINGS];
        int clues = 0;
        int clueBroke = 0;
        int clueWhole = 0;
        int acts = 0;
        // Of each act who moved (things behind the people), from which cell, and what was broken ahead of it.
        final int[] actMover = new int[MOST_ACTS];
        final int[] actCell = new int[MOST_ACTS];
        final int[] actBroken = new int[MOST_ACTS];

        School(Ground land) {
            this.land = land;
        }

        void settleOn(Ground next) {
            land = next;
            System.arraycopy(next.personStart, 0, personCell, 0, MOST_PEOPLE);
            System.arraycopy(next.thingStart, 0, thingCell, 0, MOST_THINGS);
            broken = 0;
            acts = 0;
            forgetClues();
        }

        void copyFrom(School other) {
            land = other.land;
            inForce = other.inForce;
            x = other.x;
            broken = other.broken;
            System.arraycopy(other.personCell, 0, personCell, 0, MOST_PEOPLE);
            System.arraycopy(other.thingCell, 0, thingCell, 0, MOST_THINGS);
            clues = other.clues;
            clueBroke = other.clueBroke;
            clueWhole = other.clueWhole;
            acts = other.acts;
            System.arraycopy(other.actMover, 0, actMover, 0, MOST_ACTS);
            System.arraycopy(other.actCell, 0, actCell, 0, MOST_ACTS);
            System.arraycopy(other.actBroken, 0, actBroken, 0, MOST_ACTS);
        }

        boolean isBroken(int thing) {
            return ((broken >> thing) & 1) != 0;
        }

        int peopleIn(int cell) {
            int bits = 0;
            for (int person = 0; person < land.people; person++) {
                if (personCell[person] == cell) {
                    bits |= 1 << person;
                }
            }
            return bits;
        }

        int thingsIn(int cell) {
            int bits = 0;
            for (int thing = 0; thing < land.things; thing++) {
                if (thingCell[thing] == cell) {
                    bits |= 1 << thing;
                }
            }
            return bits;
        }

        void forgetClues() {
            clues = 0;
            clueBroke = 0;
            clueWhole = 0;
        }

        void addClue(int thing, boolean broke) {
            if (broke) {
                clueBroke |= 1 << thing;
            } else {
                clueWhole |= 1 << thing;
            }
            clues++;
        }

        boolean fitsClues(int broke) {
            return (broke & clueBroke) == clueBroke && (broke & clueWhole) == 0;
        }

        void remember(int mover, int cell) {
            if (acts >= MOST_ACTS) {
                System.arraycopy(actMover, 1, actMover, 0, MOST_ACTS - 1);
                System.arraycopy(actCell, 1, actCell, 0, MOST_ACTS - 1);
                System.arraycopy(actBroken, 1, actBroken, 0, MOST_ACTS - 1);
                acts = MOST_ACTS - 1;
            }
            actMover[acts] = mover;
            actCell[acts] = cell;
            actBroken[acts] = broken;
            acts++;
        }

        void takeBack() {
            if (acts < 1) {
                return;
            }
            acts--;
            int mover = actMover[acts];
            if (mover < MOST_PEOPLE) {
                personCell[mover] = actCell[acts];
            } else {
                thingCell[mover - MOST_PEOPLE] = actCell[acts];
            }
            broken = actBroken[acts];
        }

        int nextDraw() {
            x = (int) ((x * 1103515245L + 12345L) % 2147483648L);
            return x / 65536;
        }
    }

    /** One fall at a time, step by step; what came of it stands in its fields. */
    private static final class Fall {
        School school;
        Ground land;
        Rule law;
        int person = 0;
        int broken = 0;
        int cell = 0;
        int push = 0;
        int steps = 0;
        int broke = 0;
        int lost = 0;
        boolean isNetted = false;
        final int[] words = new int[Rule.WORDS];

        Fall(School school, Rule law) {
            this.school = school;
            this.land = school.land;
            this.law = law;
        }

        void begin(School nextSchool, Rule nextLaw, int nextPerson) {
            school = nextSchool;
            land = nextSchool.land;
            law = nextLaw;
            person = nextPerson;
            broken = nextSchool.broken;
            cell = nextSchool.personCell[nextPerson];
            push = 0;
            steps = 0;
            broke = 0;
            lost = 0;
            isNetted = false;
            words[Rule.W_PERSON] = nextPerson;
            words[Rule.W_SOFT] = land.soft[nextPerson];
        }

        void run(int side) {
            int leaned = land.lowerBeside(cell, side);
            int next = leaned != NONE ? leaned : land.leads[cell];
            for (int i = 0; i < MOST_STEPS && next != NONE; i++) {
                stepTo(next);
                next = isNetted ? NONE : land.leads[cell];
            }
        }

        void stepTo(int next) {
            int drop = land.dropTo(cell, next);
            push = Math.max(0, push + drop - land.soft[person]);
            cell = next;
            steps++;
            isNetted = land.hasNet(next);
            if (isNetted) {
                push = 0;
                return;
            }
            int others = Integer.bitCount(school.peopleIn(next) & ~(1 << person));
            words[Rule.W_FORCE] = push;
            words[Rule.W_DROP] = drop;
            words[Rule.W_STEP] = steps;
            words[Rule.W_HEIGHT] = land.heights[next];
            words[Rule.W_PEOPLE] = others;
            int whole = school.thingsIn(next) & ~broken;
            for (int thing = 0; thing < land.things; thing++) {
                if (((whole >> thing) & 1) != 0) {
                    touch(thing);
                }
            }
            if (others > 0) {
                push /= 2;
            }
        }

        private void touch(int thing) {
            words[Rule.W_THING] = thing;
            words[Rule.W_HARD] = land.hard[thing];
            words[Rule.W_WORTH] = land.worth[thing];
            words[Rule.W_OWN] = land.owner[thing] == person ? 1 : 0;
            words[Rule.W_BROKEN] = Integer.bitCount(broke);
            if (law.breaksBy(words)) {
                lost += law.lossBy(words);
                broke |= 1 << thing;
            }
        }

        int mark() {
            return Math.max(0, BEST_MARK - lost);
        }

        int worthOfOthersBroken() {
            int sum = 0;
            for (int thing = 0; thing < land.things; thing++) {
                if (((broke >> thing) & 1) != 0 && land.owner[thing] != person) {
                    sum += land.worth[thing];
                }
            }
            return sum;
        }
    }

    /** The way down on which least is broken, by trying every way. */
    private static final class Way {
        final Fall fall;
        final int[] sides = new int[MOST_STEPS];
        final int[] bestSides = new int[MOST_STEPS];
        int bestWorth = NONE;
        int bestSteps = 0;

        Way(Fall fall) {
            this.fall = fall;
        }

        void seek(School school, Rule law, int person) {
            bestWorth = NONE;
            bestSteps = 0;
            fall.begin(school, law, person);
            goDown(0);
        }

        /** Each step goes lower, so there are never more than MOST_STEPS of them. */
        private void goDown(int depth) {
            int cell = fall.cell;
            if (depth >= MOST_STEPS || fall.isNetted || fall.land.leads[cell] == NONE) {
                compare();
                return;
            }
            int push = fall.push;
            int broke = fall.broke;
            for (int side = 0; side < SIDES; side++) {
                int next = fall.land.lowerBeside(cell, side);
                if (next != NONE) {
                    sides[depth] = side;
                    fall.stepTo(next);
                    goDown(depth + 1);
                    fall.cell = cell;
                    fall.push = push;
                    fall.broke = broke;
                    fall.steps = depth;
                }
            }
        }

        /** Ways are tried in the order of their sides, so of equal ones the first stays. */
        private void compare() {
            int worth = fall.worthOfOthersBroken();
            if (bestWorth == NONE || worth < bestWorth || worth == bestWorth && fall.steps < bestSteps) {
                bestWorth = worth;
                bestSteps = fall.steps;
                System.arraycopy(sides, 0, bestSides, 0, MOST_STEPS);
            }
        }
    }

    /** From where one can have fallen, by what broke. */
    private static final class Origins {
        final Fall fall;
        int found = 0;
        int firstCell = NONE;
        int firstSide = NONE;
        final int[] breaks = new int[MOST_THINGS];

        Origins(Fall fall) {
            this.fall = fall;
        }

        void seek(School school, Rule law, int person) {
            found = 0;
            Arrays.fill(breaks, 0);
            for (int cell = 0; cell < school.land.cells; cell++) {
                for (int side = 0; side < LEANS; side++) {
                    fall.begin(school, law, person);
                    fall.cell = cell;
                    fall.broken = 0;
                    fall.run(side);
                    if (school.fitsClues(fall.broke)) {
                        add(cell, side);
                    }
                }
            }
        }

        private void add(int cell, int side) {
            if (found == 0) {
                firstCell = cell;
                firstSide = side;
            }
            found++;
            for (int thing = 0; thing < MOST_THINGS; thing++) {
                breaks[thing] += (fall.broke >> thing) & 1;
            }
        }

        int greaterPart(int thing) {
            return Math.max(breaks[thing], found - breaks[thing]);
        }

        int bestShard(int things) {
            int best = NONE;
            for (int thing = 0; thing < things; thing++) {
                if (best == NONE || greaterPart(thing) < greaterPart(best)) {
                    best = thing;
                }
            }
            return best;
        }
    }

    /** What is asked of the cells alone: trays, the game and chances. */
    private static final class Slopes {
        final long[] under = new long[MOST_CELLS];
        final long[] apart = new long[MOST_CELLS];
        int traySets = 0;
        final int[] firstTrays = new int[MOST_TRAYS];
        final boolean[] wins = new boolean[MOST_CELLS];
        final long[] shares = new long[MOST_CELLS];

        void setTrays(Ground land, int n) {
            traySets = 0;
            findApart(land);
            for (int a = 0; a < land.cells; a++) {
                if (n == 1) {
                    addSets(a, NONE, NONE, 1);
                } else {
                    setTraysBehind(land, a, n);
                }
            }
        }

        private void setTraysBehind(Ground land, int a, int n) {
            for (int b = a + 1; b < land.cells; b++) {
                if (((apart[a] >> b) & 1) != 0) {
                    if (n == 2) {
                        addSets(a, b, NONE, 1);
                    } else {
                        long third = apart[a] & apart[b] & -(2L << b);
                        addSets(a, b, lowestOf(third), Long.bitCount(third));
                    }
                }
            }
        }

        private void addSets(int a, int b, int c, int many) {
            if (traySets == 0 && many > 0) {
                firstTrays[0] = a;
                firstTrays[1] = b;
                firstTrays[2] = c;
            }
            traySets += many;
        }

        private static int lowestOf(long bits) {
            for (int i = 0; i < MOST_CELLS; i++) {
                if (((bits >> i) & 1) != 0) {
                    return i;
                }
            }
            return NONE;
        }

        private void findApart(Ground land) {
            for (int cell = 0; cell < land.cells; cell++) {
                under[cell] = cellsUnder(land, cell);
            }
            for (int cell = 0; cell < land.cells; cell++) {
                apart[cell] = 0;
                for (int other = 0; other < land.cells; other++) {
                    if (((under[cell] >> other) & 1) == 0 && ((under[other] >> cell) & 1) == 0) {
                        apart[cell] |= 1L << other;
                    }
                }
            }
        }

        private static long cellsUnder(Ground land, int cell) {
            long bits = 1L << cell;
            int at = cell;
            for (int i = 0; i < MOST_STEPS && land.leads[at] != NONE; i++) {
                at = land.leads[at];
                bits |= 1L << at;
            }
            return bits;
        }

        /** Lower cells come first, so that each asks only of cells that are known. */
        int winningSide(Ground land, int cell) {
            for (int height = 0; height < land.heights[cell]; height++) {
                for (int at = 0; at < land.cells; at++) {
                    if (land.heights[at] == height) {
                        wins[at] = sideToLoser(land, at) != NONE;
                    }
                }
            }
            return sideToLoser(land, cell);
        }

        private int sideToLoser(Ground land, int cell) {
            for (int side = 0; side < SIDES; side++) {
                int next = land.lowerBeside(cell, side);
                if (next != NONE && !wins[next]) {
                    return side;
                }
            }
            return NONE;
        }

        /**
         * Of 12 to the power of the cell's height the part with which one comes to the other cell: a
         * step is shared by 1 to 4 cells, which all divide 12, so that every part is a whole number.
         */
        long shareOfTwelfths(Ground land, int cell, int other) {
            for (int height = 0; height < land.heights[cell]; height++) {
                for (int at = 0; at < land.cells; at++) {
                    if (land.heights[at] == height) {
                        shares[at] = shareFrom(land, at, other);
                    }
                }
            }
            return shareFrom(land, cell, other);
        }

        private long shareFrom(Ground land, int cell, int other) {
            if (cell == other) {
                return twelveTo(land.heights[cell]);
            }
            int ways = 0;
            for (int side = 0; side < SIDES; side++) {
                ways += land.lowerBeside(cell, side) == NONE ? 0 : 1;
            }
            if (ways == 0) {
                return 0;
            }
            long sum = 0;
            for (int side = 0; side < SIDES; side++) {
                int next = land.lowerBeside(cell, side);
                if (next != NONE) {
                    sum += shares[next] * (twelveTo(land.dropTo(cell, next)) / ways);
                }
            }
            return sum;
        }

        static long twelveTo(int power) {
            long product = 1;
            for (int i = 0; i < power; i++) {
                product *= 12;
            }
            return product;
        }

        static long commonDivisor(long a, long b) {
            long greater = a;
            long lesser = b;
            for (int i = 0; i < MOST_BYTES && lesser != 0; i++) {
                long rest = greater % lesser;
                greater = lesser;
                lesser = rest;
            }
            return greater;
        }
    }
}
