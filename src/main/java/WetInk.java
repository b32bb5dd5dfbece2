import java.util.Arrays;

/** Ink that dries by being read: the leaves of a book, its readers, its guard and its forger. */
public final class WetInk {
    public static final int NONE = -1;

    private static final int TAPE_BYTES = 1600;
    private static final int STATEMENTS = 80;
    private static final int INKS = 6;
    private static final int LEAVES = 8;
    private static final int READERS = 4;
    private static final int RULES = 8;
    private static final int WORDS = 16;
    private static final int PLACES = 64;
    private static final int NAME_LETTERS = 6;
    private static final int WORD_LETTERS = 12;
    private static final int LETTERS = 26;
    private static final int KEPT_CHANGES = 400;
    private static final int LAST_HOUR = 9999;
    private static final int MOST_EYES = 99;
    private static final int PLAN_HOURS = 200;
    private static final int NEVER = 0x7fffffff;
    private static final long MANY = 1_000_000_000_000_000L;

    private static final int WET = 0;
    private static final int DRY = 1;
    private static final int BLANK = 2;
    private static final int GHOST = 3;

    private static final String OWN_WORDS =
            "ink eyes leaf reader pace skips pay when word guard or and not all place letter needs min max ";
    private static final int OWN_INK = 0;
    private static final int OWN_EYES = 1;
    private static final int OWN_LEAF = 2;
    private static final int OWN_READER = 3;
    private static final int OWN_PACE = 4;
    private static final int OWN_SKIPS = 5;
    private static final int OWN_PAY = 6;
    private static final int OWN_WHEN = 7;
    private static final int OWN_WORD = 8;
    private static final int OWN_GUARD = 9;
    private static final int OWN_OR = 10;
    private static final int OWN_AND = 11;
    private static final int OWN_NOT = 12;
    private static final int OWN_ALL = 13;
    private static final int OWN_PLACE = 14;
    private static final int OWN_LETTER = 15;
    private static final int OWN_NEEDS = 16;
    private static final int OWN_MIN = 17;
    private static final int OWN_MAX = 18;

    private final Tape tape = new Tape();
    private final Tape picture = new Tape();
    private final Parser parser = new Parser(tape);
    private final World world = new World(new Book());
    private final Hiring hiring = new Hiring(world);
    private final Plans plans = new Plans(world);
    private final Texts writings = new Texts(world);
    private long drawn = 1;

    public WetInk() {
    }

    public int feed(int a, int b, int c, int d, int e) {
        if (!tape.hasRoom(20)) {
            return NONE;
        }
        tape.putNumber(a);
        tape.putNumber(b);
        tape.putNumber(c);
        tape.putNumber(d);
        tape.putNumber(e);
        return tape.size();
    }

    public boolean end(int n) {
        return tape.cut(n);
    }

    public int book() {
        parser.parse();
        tape.cut(0);
        if (parser.faultKind() != 0) {
            return NONE;
        }
        world.tell(parser.trade(world.told()));
        return parser.statements();
    }

    public int fault(int what) {
        if (what == 0) {
            return parser.faultKind();
        }
        return what == 1 ? parser.faultPlace() : NONE;
    }

    public int has(int what) {
        Book told = world.told();
        switch (what) {
            case 0:
                return told.inks.size();
            case 1:
                return told.leaves.size();
            case 2:
                return told.readers.size();
            case 3:
                return told.rules.size();
            case 4:
                return told.words.size();
            case 5:
                return world.hour();
            case 6:
            case 7:
            case 8:
            case 9:
                return world.tallyAll(what - 6);
            case 10:
                return world.changes().size();
            default:
                return NONE;
        }
    }

    public int letter(int kind, int which, int k) {
        if (k < 0 || k >= WORD_LETTERS) {
            return NONE;
        }
        switch (kind) {
            case 0:
                return world.told().inks.letterOf(which, k);
            case 1:
                return world.told().readers.letterOf(which, k);
            case 2:
                return world.told().words.letterOf(which, k);
            default:
                return NONE;
        }
    }

    public int leaf(int leaf, int what) {
        if (!world.told().hasLeaf(leaf)) {
            return NONE;
        }
        switch (what) {
            case 0:
                return world.told().placesOf(leaf);
            case 1:
            case 2:
            case 3:
            case 4:
                return world.tally(leaf, what - 1);
            case 5:
                return world.mostEyes(leaf);
            case 6:
                return world.allEyes(leaf);
            default:
                return NONE;
        }
    }

    public int sign(int leaf, int place, int what) {
        if (!world.told().hasPlace(leaf, place)) {
            return NONE;
        }
        switch (what) {
            case 0:
                return world.letterAt(leaf, place);
            case 1:
                return world.eyesAt(leaf, place);
            case 2:
                return world.drySince(leaf, place);
            case 3:
                return world.ghostAt(leaf, place);
            default:
                return NONE;
        }
    }

    public int reader(int reader, int what) {
        if (!world.told().hasReader(reader)) {
            return NONE;
        }
        switch (what) {
            case 0:
                return world.seatLeaf(reader);
            case 1:
                return world.seatPlace(reader);
            case 2:
                return world.hoursLeft(reader);
            default:
                return NONE;
        }
    }

    // ---- acts

    public int read(int leaf, int from, int to, int n) {
        if (!world.told().hasSpan(leaf, from, to) || n < 1 || n > MOST_EYES) {
            return NONE;
        }
        int dried = 0;
        for (int place = from; place <= to; place++) {
            dried += world.giveEyes(leaf, place, n, world.hour());
        }
        return dried;
    }

    public int wipe(int leaf, int from, int to) {
        if (!world.told().hasSpan(leaf, from, to) || world.hasDry(leaf, from, to)) {
            return NONE;
        }
        int wiped = 0;
        for (int place = from; place <= to; place++) {
            wiped += world.blank(leaf, place);
        }
        return wiped;
    }

    public int write(int leaf, int place, int letter, int ink) {
        Book told = world.told();
        if (!told.hasPlace(leaf, place) || letter < 1 || letter > LETTERS || !told.hasInk(ink)) {
            return NONE;
        }
        if (world.isSuch(leaf, place, DRY)) {
            return NONE;
        }
        world.pen(leaf, place, letter, ink);
        return world.eyesAt(leaf, place);
    }

    public int press(int leaf, int on) {
        Book told = world.told();
        if (!told.hasLeaf(leaf) || !told.hasLeaf(on) || leaf == on) {
            return NONE;
        }
        return world.pressOn(leaf, on);
    }

    public int seat(int reader, int leaf) {
        Book told = world.told();
        if (!told.hasReader(reader) || !told.hasLeaf(leaf) || world.seatLeaf(reader) != NONE) {
            return NONE;
        }
        world.putAt(reader, leaf, 0);
        return world.hoursLeft(reader);
    }

    public int hours(int n) {
        if (n < 1 || n > 999 || world.hour() + n > LAST_HOUR) {
            return NONE;
        }
        int dried = 0;
        for (int i = 0; i < n; i++) {
            dried += world.passHour();
        }
        return dried;
    }

    public int run(int n) {
        int readers = world.told().readers.size();
        int leaves = world.told().leaves.size();
        if (n < 1 || n > 200 || world.hour() + n > LAST_HOUR || readers == 0 || leaves == 0) {
            return NONE;
        }
        int dried = 0;
        for (int i = 0; i < n; i++) {
            int reader = draw(readers);
            int leaf = draw(leaves);
            if (world.seatLeaf(reader) == NONE) {
                world.putAt(reader, leaf, 0);
            }
            dried += world.passHour();
        }
        return dried;
    }

    private int draw(int m) {
        drawn = (1103515245L * drawn + 12345L) & 0x7fffffffL;
        return m > 0 ? (int) (drawn / 64 % m) : 0;
    }

    public boolean seed(int seed) {
        if (seed < 0) {
            return false;
        }
        drawn = seed;
        return true;
    }

    // ---- what was

    public int stood(int leaf, int place, int hour) {
        if (!world.told().hasPlace(leaf, place) || hour < 0 || hour > world.hour()) {
            return NONE;
        }
        return world.stoodAt(leaf, place, hour);
    }

    public int change(int k, int what) {
        return world.changes().tell(k, what);
    }

    public int altered(int leaf, int hour) {
        if (!world.told().hasLeaf(leaf) || hour < 0 || hour > world.hour()) {
            return NONE;
        }
        return world.alteredPlaces(leaf, hour);
    }

    public int span(int leaf, boolean wet, int what) {
        if (!world.told().hasLeaf(leaf) || what < 0 || what > 1) {
            return NONE;
        }
        int kind = wet ? WET : DRY;
        int longest = 0;
        int first = NONE;
        int length = 0;
        for (int place = 0; place < world.told().placesOf(leaf); place++) {
            length = world.isSuch(leaf, place, kind) ? length + 1 : 0;
            if (length > longest) {
                longest = length;
                first = place - length + 1;
            }
        }
        return what == 0 ? first : longest;
    }

    // ---- plans

    public int hire(int leaf, int from, int to, int what) {
        Book told = world.told();
        if (!told.hasSpan(leaf, from, to) || what < 0 || what >= 2 + told.readers.size()) {
            return NONE;
        }
        if (!hiring.plan(leaf, from, to)) {
            return NONE;
        }
        if (what < 2) {
            return what == 0 ? hiring.total() : hiring.pay();
        }
        return hiring.countOf(what - 2);
    }

    public int dries(int leaf, int from, int to) {
        if (!world.told().hasSpan(leaf, from, to)) {
            return NONE;
        }
        int last = world.hour();
        for (int place = from; place <= to; place++) {
            last = Math.max(last, plans.dryHour(leaf, place));
        }
        return last == NEVER ? NONE : last;
    }

    public int forge(int leaf, int from, int to, int pace, int till) {
        if (!canPlan(leaf, from, to, pace, till)) {
            return NONE;
        }
        return plans.lastBegin(leaf, from, to, pace, till);
    }

    public int bars(int leaf, int from, int to, int pace, int till) {
        if (!canPlan(leaf, from, to, pace, till)) {
            return NONE;
        }
        return plans.fewestBars(leaf, from, to, pace, till);
    }

    private boolean canPlan(int leaf, int from, int to, int pace, int till) {
        int now = world.hour();
        return world.told().hasSpan(leaf, from, to) && pace >= 1 && pace <= PLACES
                && till >= now && till <= now + PLAN_HOURS;
    }

    public int guard(int hour) {
        if (hour < 0 || hour > LAST_HOUR) {
            return NONE;
        }
        return world.told().isGuarded(hour) ? 1 : 0;
    }

    // ---- texts

    public long texts(int leaf) {
        return world.told().hasLeaf(leaf) ? writings.count(leaf) : -1L;
    }

    public int text(int leaf, long k, int j) {
        if (!world.told().hasLeaf(leaf) || k < 0 || j < 0) {
            return NONE;
        }
        return writings.wordOf(leaf, k, j);
    }

    public int could(int leaf, int place) {
        return world.told().hasPlace(leaf, place) ? writings.lettersAt(leaf, place) : NONE;
    }

    public long begins(int leaf, int word, int place) {
        Book told = world.told();
        if (!told.hasPlace(leaf, place) || word < 0 || word >= told.words.size()) {
            return -1L;
        }
        return writings.countBegun(leaf, word, place);
    }

    // ---- images

    public int image() {
        Images.compose(world, picture);
        return picture.size();
    }

    public int octet(int k) {
        return picture.byteAt(k);
    }

    public boolean on() {
        boolean taken = Images.isSuch(world, tape);
        if (taken) {
            Images.take(world, tape);
        }
        tape.cut(0);
        return taken;
    }

    /** A row of bytes with an end; what was fed, and the latest image, are kept in such rows. */
    private static final class Tape {
        private final int[] bytes = new int[TAPE_BYTES];
        private int count;

        boolean hasRoom(int more) {
            return count + more <= bytes.length;
        }

        void putNumber(int number) {
            for (int shift = 24; shift >= 0; shift -= 8) {
                putByte(number >>> shift);
            }
        }

        void putByte(int value) {
            if (count < bytes.length) {
                bytes[count] = value & 255;
                count++;
            }
        }

        boolean cut(int n) {
            if (n < 0 || n > count) {
                return false;
            }
            count = n;
            return true;
        }

        int size() {
            return count;
        }

        int byteAt(int k) {
            return k >= 0 && k < count ? bytes[k] : NONE;
        }
    }

    /** Rows of letters 1 .. 26, each of at most so many: names, words, or the leaves as told. */
    private static final class Spells {
        private final int width;
        private final int[] letters;
        private final int[] lengths;
        private int count;

        Spells(int most, int width) {
            this.width = width;
            letters = new int[most * width];
            lengths = new int[most];
        }

        void clear() {
            count = 0;
        }

        int size() {
            return count;
        }

        boolean isFull() {
            return count >= lengths.length;
        }

        void add(Tape tape, int from, int to) {
            if (isFull() || to - from > width) {
                return;
            }
            for (int i = from; i < to; i++) {
                letters[count * width + i - from] = tape.byteAt(i) - 'a' + 1;
            }
            lengths[count] = to - from;
            count++;
        }

        int find(Tape tape, int from, int to) {
            for (int which = 0; which < count; which++) {
                if (isSpelled(which, tape, from, to)) {
                    return which;
                }
            }
            return NONE;
        }

        private boolean isSpelled(int which, Tape tape, int from, int to) {
            if (lengths[which] != to - from) {
                return false;
            }
            for (int i = from; i < to; i++) {
                if (letters[which * width + i - from] != tape.byteAt(i) - 'a' + 1) {
                    return false;
                }
            }
            return true;
        }

        int lengthOf(int which) {
            return which >= 0 && which < count ? lengths[which] : 0;
        }

        int letterOf(int which, int k) {
            if (which < 0 || which >= count) {
                return NONE;
            }
            return k >= 0 && k < lengths[which] ? letters[which * width + k] : 0;
        }
    }

    /** What a text told, as it was told: nothing in it changes until another text comes. */
    private static final class Book {
        private final Spells inks = new Spells(INKS, NAME_LETTERS);
        private final Spells leaves = new Spells(LEAVES, PLACES);
        private final Spells readers = new Spells(READERS, NAME_LETTERS);
        private final Spells words = new Spells(WORDS, WORD_LETTERS);
        private final Rules rules = new Rules();
        private final int[] inkEyes = new int[INKS];
        private final int[] leafInks = new int[LEAVES];
        private final int[] paces = new int[READERS];
        private final int[] skips = new int[READERS];
        private final int[] pays = new int[READERS];
        private int guardEvery;
        private int guardFrom;

        void clear() {
            inks.clear();
            leaves.clear();
            readers.clear();
            words.clear();
            rules.clear();
            guardEvery = 0;
            guardFrom = 0;
        }

        void addInk(Tape tape, int from, int to, int eyes) {
            if (!inks.isFull()) {
                inkEyes[inks.size()] = eyes;
                inks.add(tape, from, to);
            }
        }

        void addLeaf(Tape tape, int from, int to, int ink) {
            if (!leaves.isFull()) {
                leafInks[leaves.size()] = ink;
                leaves.add(tape, from, to);
            }
        }

        void addReader(Tape tape, int from, int to, int pace, int skip, int pay) {
            if (!readers.isFull()) {
                paces[readers.size()] = pace;
                skips[readers.size()] = skip;
                pays[readers.size()] = pay;
                readers.add(tape, from, to);
            }
        }

        void setGuard(int every, int from) {
            guardEvery = every;
            guardFrom = from;
        }

        boolean hasInk(int ink) {
            return ink >= 0 && ink < inks.count;
        }

        boolean hasLeaf(int leaf) {
            return leaf >= 0 && leaf < leaves.count;
        }

        boolean hasReader(int reader) {
            return reader >= 0 && reader < readers.count;
        }

        boolean hasPlace(int leaf, int place) {
            return place >= 0 && place < placesOf(leaf);
        }

        boolean hasSpan(int leaf, int from, int to) {
            return from >= 0 && from <= to && to < placesOf(leaf);
        }

        int placesOf(int leaf) {
            return leaf >= 0 && leaf < leaves.count ? leaves.lengths[leaf] : 0;
        }

        int inkOf(int leaf) {
            return hasLeaf(leaf) ? leafInks[leaf] : 0;
        }

        int eyesOf(int ink) {
            return hasInk(ink) ? inkEyes[ink] : 0;
        }

        int paceOf(int reader) {
            return hasReader(reader) && paces[reader] > 0 ? paces[reader] : 1;
        }

        int payOf(int reader) {
            return hasReader(reader) ? pays[reader] : 0;
        }

        boolean looksAt(int reader, int place) {
            if (!hasReader(reader)) {
                return false;
            }
            int skip = skips[reader];
            return skip == 0 || (place + 1) % skip != 0;
        }

        boolean isGuarded(int hour) {
            return guardEvery > 0 && hour % guardEvery == guardFrom;
        }
    }

    /** The rules of a book, each a sum and a test, kept as steps that work on a stack of numbers. */
    private static final class Rules {
        private static final int LIMIT = 1_000_000;
        private static final int STACK = 64;

        private final int[] steps = new int[TAPE_BYTES];
        private final int[] bounds = new int[2 * RULES + 1];
        private final int[] stack = new int[STACK];
        private int stepCount;
        private int partCount;
        private int depth;
        private int place;
        private int leaf;
        private int letter;
        private int needs;

        void clear() {
            stepCount = 0;
            partCount = 0;
        }

        int size() {
            return partCount / 2;
        }

        boolean isFull() {
            return size() >= RULES;
        }

        void addNumber(int number) {
            addStep(number);
        }

        // Below zero, where no number of a text can be; a mark's byte is above the own words' count.
        void addMark(int mark) {
            addStep(-mark);
        }

        void addOwn(int own) {
            addStep(-1 - own);
        }

        private void addStep(int step) {
            if (stepCount < steps.length) {
                steps[stepCount] = step;
                stepCount++;
            }
        }

        void closePart() {
            if (partCount + 1 < bounds.length) {
                partCount++;
                bounds[partCount] = stepCount;
            }
        }

        int eyesFor(int atLeaf, int atPlace, int written, int inkEyes) {
            leaf = atLeaf;
            place = atPlace;
            letter = written;
            needs = inkEyes;
            for (int rule = 0; rule < size(); rule++) {
                if (valueOf(2 * rule + 1) != 0) {
                    return Math.max(0, Math.min(MOST_EYES, valueOf(2 * rule)));
                }
            }
            return inkEyes;
        }

        private int valueOf(int part) {
            if (part < 0 || part >= partCount) {
                return 0;
            }
            depth = 0;
            for (int i = bounds[part]; i < bounds[part + 1]; i++) {
                take(steps[i]);
            }
            return pop();
        }

        private void take(int step) {
            switch (step) {
                case -1 - OWN_PLACE:
                    push(place);
                    break;
                case -1 - OWN_LEAF:
                    push(leaf);
                    break;
                case -1 - OWN_LETTER:
                    push(letter);
                    break;
                case -1 - OWN_NEEDS:
                    push(needs);
                    break;
                case -1 - OWN_ALL:
                    push(1);
                    break;
                case -1 - OWN_NOT:
                    push(1 - pop());
                    break;
                default:
                    if (step >= 0) {
                        push(step);
                    } else {
                        int right = pop();
                        long joined = join(step, pop(), right);
                        push((int) Math.max(-LIMIT, Math.min(LIMIT, joined)));
                    }
            }
        }

        private static long join(int step, long left, long right) {
            switch (step) {
                case -'+':
                    return left + right;
                case -'-':
                    return left - right;
                case -'*':
                    return left * right;
                case -'/':
                    return right == 0 ? 0 : Math.floorDiv(left, right);
                case -'<':
                    return left < right ? 1 : 0;
                case -'>':
                    return left > right ? 1 : 0;
                case -'=':
                    return left == right ? 1 : 0;
                case -1 - OWN_OR:
                case -1 - OWN_MAX:
                    return Math.max(left, right);
                default:
                    return Math.min(left, right);
            }
        }

        private void push(int value) {
            if (depth < stack.length) {
                stack[depth] = value;
                depth++;
            }
        }

        private int pop() {
            if (depth == 0) {
                return 0;
            }
            depth--;
            return stack[depth];
        }
    }

    /** Reads the tape from the left on and stops at the first fault along it. */
    private static final class Parser {
        private static final int MOST_OPEN = 6;
        private static final int END = 0;
        private static final int GAP = 1;
        private static final int WORD = 2;
        private static final int NUMBER = 3;
        private static final int MARK = 4;
        private static final int CLOSE_BY = 5;

        private final Tape tape;
        private Book draft = new Book();
        private int at;
        private int past;
        private int kind;
        private int own = NONE;
        private int fault;
        private int faultAt = NONE;
        private int statementCount;

        Parser(Tape tape) {
            this.tape = tape;
        }

        int faultKind() {
            return fault;
        }

        int faultPlace() {
            return faultAt;
        }

        int statements() {
            return statementCount;
        }

        /** Gives what was read last for a book that is no longer used: two books serve for all texts. */
        Book trade(Book old) {
            Book read = draft;
            draft = old;
            return read;
        }

        void parse() {
            begin();
            for (int i = 0; i < STATEMENTS && kind != END; i++) {
                switch (own) {
                    case OWN_INK:
                        inkStatement();
                        break;
                    case OWN_LEAF:
                        leafStatement();
                        break;
                    case OWN_READER:
                        readerStatement();
                        break;
                    case OWN_EYES:
                        ruleStatement();
                        break;
                    case OWN_WORD:
                        wordStatement();
                        break;
                    case OWN_GUARD:
                        guardStatement();
                        break;
                    default:
                        fail(1, at);
                }
                takeMark(';');
                statementCount++;
            }
            if (kind != END) {
                fail(5, at);
            }
        }

        private void begin() {
            draft.clear();
            fault = 0;
            faultAt = NONE;
            statementCount = 0;
            past = 0;
            kind = END;
            advance();
        }

        private void inkStatement() {
            open(draft.inks.isFull());
            checkNewName();
            int from = at;
            int to = past;
            advance();
            takeOwn(OWN_EYES);
            int eyes = takeNumber(1, 20);
            if (fault == 0) {
                draft.addInk(tape, from, to, eyes);
            }
        }

        private void leafStatement() {
            open(draft.leaves.isFull());
            checkSpell(PLACES);
            int from = at;
            int to = past;
            advance();
            takeOwn(OWN_INK);
            checkName();
            int ink = draft.inks.find(tape, at, past);
            if (ink == NONE) {
                fail(3, at);
            }
            advance();
            if (fault == 0) {
                draft.addLeaf(tape, from, to, ink);
            }
        }

        private void readerStatement() {
            open(draft.readers.isFull());
            checkNewName();
            int from = at;
            int to = past;
            advance();
            takeOwn(OWN_PACE);
            int pace = takeNumber(1, 64);
            takeOwn(OWN_SKIPS);
            int skipsAt = at;
            int skip = takeNumber(0, 9);
            if (skip == 1) {
                fail(2, skipsAt);
            }
            takeOwn(OWN_PAY);
            int pay = takeNumber(0, 99);
            if (fault == 0) {
                draft.addReader(tape, from, to, pace, skip, pay);
            }
        }

        private void ruleStatement() {
            open(draft.rules.isFull());
            sum(0);
            takeOwn(OWN_WHEN);
            draft.rules.closePart();
            test(0);
            draft.rules.closePart();
        }

        private void wordStatement() {
            open(draft.words.isFull());
            checkSpell(WORD_LETTERS);
            if (draft.words.find(tape, at, past) != NONE) {
                fail(3, at);
            }
            if (fault == 0) {
                draft.words.add(tape, at, past);
            }
            advance();
        }

        private void guardStatement() {
            open(false);
            int every = takeNumber(1, 99);
            int from = takeNumber(0, every - 1);
            draft.setGuard(every, from);
        }

        private void open(boolean full) {
            if (full) {
                fail(5, at);
            }
            advance();
        }

        private void checkNewName() {
            checkName();
            if (draft.inks.find(tape, at, past) != NONE || draft.readers.find(tape, at, past) != NONE) {
                fail(3, at);
            }
        }

        private void checkName() {
            if (own != NONE) {
                fail(1, at);
            }
            checkSpell(NAME_LETTERS);
        }

        private void checkSpell(int most) {
            if (kind != WORD) {
                fail(1, at);
            } else if (past - at > most) {
                fail(1, at + most);
            }
        }

        private int takeNumber(int low, int high) {
            if (kind != NUMBER) {
                fail(1, at);
            } else if (past - at > 4) {
                fail(1, at + 4);
            }
            if (fault != 0) {
                return 0;
            }
            int value = 0;
            for (int i = at; i < past; i++) {
                value = 10 * value + tape.byteAt(i) - '0';
            }
            if (value < low || value > high) {
                fail(2, at);
            }
            advance();
            return value;
        }

        private void takeOwn(int word) {
            if (own != word) {
                fail(1, at);
            }
            advance();
        }

        private void takeMark(int mark) {
            if (!isMark(mark)) {
                fail(1, at);
            }
            advance();
        }

        private boolean isMark(int mark) {
            return kind == MARK && tape.byteAt(at) == mark;
        }

        private void test(int open) {
            both(open);
            for (int i = 0; i < TAPE_BYTES && own == OWN_OR; i++) {
                advance();
                both(open);
                draft.rules.addOwn(OWN_OR);
            }
        }

        private void both(int open) {
            fact(open);
            for (int i = 0; i < TAPE_BYTES && own == OWN_AND; i++) {
                advance();
                fact(open);
                draft.rules.addOwn(OWN_AND);
            }
        }

        private void fact(int open) {
            if (own == OWN_ALL) {
                advance();
                draft.rules.addOwn(OWN_ALL);
            } else if (own == OWN_NOT) {
                if (canOpen(open)) {
                    fact(open + 1);
                    draft.rules.addOwn(OWN_NOT);
                }
            } else if (isMark('[')) {
                if (canOpen(open)) {
                    test(open + 1);
                    takeMark(']');
                }
            } else {
                sum(open);
                int compare = tape.byteAt(at);
                if (!isMark('<') && !isMark('>') && !isMark('=')) {
                    fail(1, at);
                }
                advance();
                sum(open);
                draft.rules.addMark(compare);
            }
        }

        private boolean canOpen(int open) {
            if (open >= MOST_OPEN) {
                fail(4, at);
                return false;
            }
            advance();
            return true;
        }

        private void sum(int open) {
            product(open);
            for (int i = 0; i < TAPE_BYTES && (isMark('+') || isMark('-')); i++) {
                int mark = tape.byteAt(at);
                advance();
                product(open);
                draft.rules.addMark(mark);
            }
        }

        private void product(int open) {
            part(open);
            for (int i = 0; i < TAPE_BYTES && (isMark('*') || isMark('/')); i++) {
                int mark = tape.byteAt(at);
                advance();
                part(open);
                draft.rules.addMark(mark);
            }
        }

        private void part(int open) {
            if (own == OWN_PLACE || own == OWN_LEAF || own == OWN_LETTER || own == OWN_NEEDS) {
                draft.rules.addOwn(own);
                advance();
            } else if (own == OWN_MIN || own == OWN_MAX) {
                int which = own;
                advance();
                pair(open);
                draft.rules.addOwn(which);
            } else if (isMark('(')) {
                if (canOpen(open)) {
                    sum(open + 1);
                    takeMark(')');
                }
            } else {
                draft.rules.addNumber(takeNumber(0, 9999));
            }
        }

        private void pair(int open) {
            if (!isMark('(')) {
                fail(1, at);
            } else if (canOpen(open)) {
                sum(open + 1);
                takeMark(',');
                sum(open + 1);
                takeMark(')');
            }
        }

        // The first fault is the one that counts; behind it nothing is read any more.
        private void fail(int what, int place) {
            if (fault == 0) {
                fault = what;
                faultAt = place;
            }
            past = tape.size();
            kind = END;
            own = NONE;
        }

        private void advance() {
            int before = past;
            boolean wantsGap = isRow(kind);
            at = before;
            while (at < tape.count && kindAt(at) == GAP) {
                at++;
            }
            kind = kindAt(at);
            past = Math.min(at + 1, tape.count);
            while (past < tape.count && isRow(kind) && kindAt(past) == kind) {
                past++;
            }
            // A word and a number side by side need a blank: what lacks it is nothing that is ever asked for.
            if (wantsGap && at == before && isRow(kind)) {
                kind = CLOSE_BY;
            }
            own = kind == WORD ? ownWord() : NONE;
        }

        private static boolean isRow(int kind) {
            return kind == WORD || kind == NUMBER;
        }

        private int kindAt(int p) {
            if (p < 0 || p >= tape.count) {
                return END;
            }
            int sign = tape.bytes[p];
            if (sign == 10 || sign == 32) {
                return GAP;
            }
            if (sign >= 'a' && sign <= 'z') {
                return WORD;
            }
            return sign >= '0' && sign <= '9' ? NUMBER : MARK;
        }

        private int ownWord() {
            int index = 0;
            int p = at;
            boolean same = true;
            for (int i = 0; i < OWN_WORDS.length(); i++) {
                char c = OWN_WORDS.charAt(i);
                if (c != ' ') {
                    same = same && p < past && p < tape.count && tape.bytes[p] == c;
                    p++;
                } else if (same && p == past) {
                    return index;
                } else {
                    index++;
                    p = at;
                    same = true;
                }
            }
            return NONE;
        }
    }

    /** The last changes, the oldest first. */
    private static final class Changes {
        private static final int PARTS = 4;

        private final int[] parts = new int[KEPT_CHANGES * PARTS];
        private int oldest;
        private int count;

        void clear() {
            oldest = 0;
            count = 0;
        }

        int size() {
            return count;
        }

        void add(int hour, int leaf, int place, int was) {
            int slot = (oldest + count) % KEPT_CHANGES * PARTS;
            parts[slot] = hour;
            parts[slot + 1] = leaf;
            parts[slot + 2] = place;
            parts[slot + 3] = was;
            if (count < KEPT_CHANGES) {
                count++;
            } else {
                oldest = (oldest + 1) % KEPT_CHANGES;
            }
        }

        int tell(int k, int what) {
            if (k < 0 || k >= count || what < 0 || what >= PARTS) {
                return NONE;
            }
            return parts[(oldest + k) % KEPT_CHANGES * PARTS + what];
        }

        int firstBehind(int leaf, int place, int hour) {
            for (int k = 0; k < count; k++) {
                if (tell(k, 0) > hour && tell(k, 1) == leaf && tell(k, 2) == place) {
                    return k;
                }
            }
            return NONE;
        }
    }

    /** The leaves as they stand in this hour, and the readers at them. */
    private static final class World {
        private final Changes changes = new Changes();
        private final int[] letters = new int[LEAVES * PLACES];
        private final int[] eyes = new int[LEAVES * PLACES];
        private final int[] since = new int[LEAVES * PLACES];
        private final int[] ghosts = new int[LEAVES * PLACES];
        private final int[] past = new int[PLACES];
        private final int[] seatLeaves = new int[READERS];
        private final int[] seatPlaces = new int[READERS];
        private Book told;
        private int hour;

        World(Book first) {
            told = first;
            Arrays.fill(seatLeaves, NONE);
        }

        Book told() {
            return told;
        }

        Changes changes() {
            return changes;
        }

        int hour() {
            return hour;
        }

        void tell(Book next) {
            told = next;
            hour = 0;
            Arrays.fill(ghosts, 0);
            Arrays.fill(seatLeaves, NONE);
            Arrays.fill(seatPlaces, 0);
            for (int leaf = 0; leaf < told.leaves.size(); leaf++) {
                for (int place = 0; place < told.placesOf(leaf); place++) {
                    pen(leaf, place, told.leaves.letterOf(leaf, place), told.inkOf(leaf));
                }
            }
            changes.clear();
        }

        // What an image tells comes with no changes: the places before it are not known.
        void restart(int atHour) {
            hour = atHour;
            changes.clear();
        }

        void setSign(int leaf, int place, int letter, int needs, int ghost) {
            if (told.hasPlace(leaf, place)) {
                int slot = slot(leaf, place);
                letters[slot] = letter;
                eyes[slot] = needs;
                since[slot] = hour;
                ghosts[slot] = ghost;
            }
        }

        void putAt(int reader, int leaf, int place) {
            if (told.hasReader(reader)) {
                seatLeaves[reader] = leaf;
                seatPlaces[reader] = place;
            }
        }

        private static int slot(int leaf, int place) {
            return leaf * PLACES + place;
        }

        int letterAt(int leaf, int place) {
            return told.hasPlace(leaf, place) ? letters[slot(leaf, place)] : 0;
        }

        int eyesAt(int leaf, int place) {
            return told.hasPlace(leaf, place) ? eyes[slot(leaf, place)] : 0;
        }

        int ghostAt(int leaf, int place) {
            return told.hasPlace(leaf, place) ? ghosts[slot(leaf, place)] : 0;
        }

        int drySince(int leaf, int place) {
            return isSuch(leaf, place, DRY) ? since[slot(leaf, place)] : NONE;
        }

        boolean isSuch(int leaf, int place, int kind) {
            if (!told.hasPlace(leaf, place)) {
                return false;
            }
            int slot = slot(leaf, place);
            switch (kind) {
                case WET:
                    return eyes[slot] > 0;
                case DRY:
                    return letters[slot] != 0 && eyes[slot] == 0;
                case BLANK:
                    return letters[slot] == 0;
                default:
                    return ghosts[slot] != 0;
            }
        }

        boolean hasDry(int leaf, int from, int to) {
            for (int place = from; place <= to; place++) {
                if (isSuch(leaf, place, DRY)) {
                    return true;
                }
            }
            return false;
        }

        int tally(int leaf, int kind) {
            int count = 0;
            for (int place = 0; place < told.placesOf(leaf); place++) {
                if (isSuch(leaf, place, kind)) {
                    count++;
                }
            }
            return count;
        }

        int tallyAll(int kind) {
            int count = 0;
            for (int leaf = 0; leaf < told.leaves.size(); leaf++) {
                count += tally(leaf, kind);
            }
            return count;
        }

        int mostEyes(int leaf) {
            int most = 0;
            for (int place = 0; place < told.placesOf(leaf); place++) {
                most = Math.max(most, eyesAt(leaf, place));
            }
            return most;
        }

        int allEyes(int leaf) {
            int sum = 0;
            for (int place = 0; place < told.placesOf(leaf); place++) {
                sum += eyesAt(leaf, place);
            }
            return sum;
        }

        /** Gives eyes to a sign, which is dry since the told hour if they are enough: 1 if it dried, else 0. */
        int giveEyes(int leaf, int place, int n, int dryHour) {
            if (!isSuch(leaf, place, WET)) {
                return 0;
            }
            int slot = slot(leaf, place);
            eyes[slot] = Math.max(0, eyes[slot] - n);
            if (eyes[slot] > 0) {
                return 0;
            }
            since[slot] = dryHour;
            return 1;
        }

        int blank(int leaf, int place) {
            if (letterAt(leaf, place) == 0) {
                return 0;
            }
            setLetter(leaf, place, 0, 0);
            return 1;
        }

        void pen(int leaf, int place, int letter, int ink) {
            int needs = told.rules.eyesFor(leaf, place, letter, told.eyesOf(ink));
            setLetter(leaf, place, letter, needs);
        }

        private void setLetter(int leaf, int place, int letter, int needs) {
            if (!told.hasPlace(leaf, place)) {
                return;
            }
            int slot = slot(leaf, place);
            if (letters[slot] != letter) {
                changes.add(hour, leaf, place, letters[slot]);
            }
            letters[slot] = letter;
            eyes[slot] = needs;
            since[slot] = hour;
        }

        int pressOn(int leaf, int other) {
            int came = 0;
            for (int place = 0; place < told.placesOf(leaf); place++) {
                int mirrored = told.placesOf(other) - 1 - place;
                if (isSuch(leaf, place, WET) && told.hasPlace(other, mirrored)) {
                    ghosts[slot(other, mirrored)] = letterAt(leaf, place);
                    came++;
                }
            }
            return came;
        }

        int seatLeaf(int reader) {
            return told.hasReader(reader) ? seatLeaves[reader] : NONE;
        }

        int seatPlace(int reader) {
            return told.hasReader(reader) ? seatPlaces[reader] : 0;
        }

        int hoursLeft(int reader) {
            int leaf = seatLeaf(reader);
            if (leaf == NONE) {
                return 0;
            }
            int pace = told.paceOf(reader);
            return (told.placesOf(leaf) - seatPlace(reader) + pace - 1) / pace;
        }

        int passHour() {
            int dried = 0;
            for (int reader = 0; reader < told.readers.size(); reader++) {
                dried += readOn(reader);
            }
            hour++;
            return dried;
        }

        private int readOn(int reader) {
            int leaf = seatLeaf(reader);
            if (leaf == NONE) {
                return 0;
            }
            int dried = 0;
            int first = seatPlace(reader);
            int next = Math.min(first + told.paceOf(reader), told.placesOf(leaf));
            for (int place = first; place < next; place++) {
                if (told.looksAt(reader, place)) {
                    dried += giveEyes(leaf, place, 1, hour + 1);
                }
            }
            if (next < told.placesOf(leaf)) {
                putAt(reader, leaf, next);
            } else {
                putAt(reader, NONE, 0);
            }
            return dried;
        }

        int stoodAt(int leaf, int place, int atHour) {
            int k = changes.firstBehind(leaf, place, atHour);
            return k == NONE ? letterAt(leaf, place) : changes.tell(k, 3);
        }

        int alteredPlaces(int leaf, int atHour) {
            for (int place = 0; place < told.placesOf(leaf); place++) {
                past[place] = letterAt(leaf, place);
            }
            // From the newest back: what an older change tells of a place counts over a newer one's.
            for (int k = changes.size() - 1; k >= 0 && changes.tell(k, 0) > atHour; k--) {
                int place = changes.tell(k, 2);
                if (changes.tell(k, 1) == leaf && told.hasPlace(leaf, place)) {
                    past[place] = changes.tell(k, 3);
                }
            }
            int count = 0;
            for (int place = 0; place < told.placesOf(leaf); place++) {
                if (past[place] != letterAt(leaf, place)) {
                    count++;
                }
            }
            return count;
        }
    }

    /** Finds the fewest readers that dry a span; places that the same readers look at ask for one number. */
    private static final class Hiring {
        private static final int GROUPS = 1 << READERS;

        private final World world;
        private final int[] asked = new int[GROUPS + READERS];
        private final int[] solved = new int[GROUPS + READERS];
        private final int[] rest = new int[GROUPS / 2];
        private final int[] counts = new int[READERS];
        private int total;
        private int pay;

        Hiring(World world) {
            this.world = world;
            Arrays.fill(solved, NONE);
        }

        int total() {
            return total;
        }

        int pay() {
            return pay;
        }

        int countOf(int reader) {
            return reader >= 0 && reader < counts.length ? counts[reader] : NONE;
        }

        boolean plan(int leaf, int from, int to) {
            ask(leaf, from, to);
            if (asked[0] > 0) {
                return false;
            }
            if (!isSolved()) {
                solve();
            }
            return true;
        }

        /** For each group of readers the most eyes of a sign that just they look at, then the readers' pay. */
        private void ask(int leaf, int from, int to) {
            Arrays.fill(asked, 0);
            for (int place = from; place <= to; place++) {
                int group = lookersAt(place);
                asked[group] = Math.max(asked[group], world.eyesAt(leaf, place));
            }
            for (int reader = 0; reader < READERS; reader++) {
                asked[GROUPS + reader] = world.told().payOf(reader);
            }
        }

        private int lookersAt(int place) {
            int group = 0;
            for (int reader = 0; reader < READERS; reader++) {
                if (world.told().looksAt(reader, place)) {
                    group |= 1 << reader;
                }
            }
            return group;
        }

        // One plan is asked about in several calls, and the search for it is the dearest there is.
        private boolean isSolved() {
            for (int i = 0; i < asked.length; i++) {
                if (asked[i] != solved[i]) {
                    return false;
                }
            }
            return true;
        }

        private void solve() {
            System.arraycopy(asked, 0, solved, 0, asked.length);
            total = NEVER;
            pay = NEVER;
            int most = mostOfFirst(asked, GROUPS);
            for (int first = asked[1]; first <= most && first <= total; first++) {
                for (int group = 0; group < rest.length; group++) {
                    rest[group] = Math.max(asked[2 * group], asked[2 * group + 1] - first);
                }
                trySeconds(first);
            }
        }

        /** The most that a group with the row's first reader asks for: more than these of it never help. */
        private static int mostOfFirst(int[] row, int end) {
            int most = 0;
            for (int group = 1; group < end && group < row.length; group += 2) {
                most = Math.max(most, row[group]);
            }
            return most;
        }

        // With two counts told the other two follow: each has its least, and what both lack goes to the cheaper.
        private void trySeconds(int first) {
            int least = Math.max(rest[2] + rest[4], rest[6]);
            int most = mostOfFirst(rest, rest.length);
            boolean thirdIsCheaper = asked[GROUPS + 2] < asked[GROUPS + 3];
            for (int second = rest[1]; second <= most && first + second + least <= total; second++) {
                int third = Math.max(rest[2], rest[3] - second);
                int fourth = Math.max(rest[4], rest[5] - second);
                int lack = Math.max(rest[6], rest[7] - second) - third - fourth;
                if (lack > 0 && thirdIsCheaper) {
                    third += lack;
                } else if (lack > 0) {
                    fourth += lack;
                }
                keepIfBetter(first, second, third, fourth);
            }
        }

        // They come with the fewest of the first readers first, so of like ones the first is kept.
        private void keepIfBetter(int first, int second, int third, int fourth) {
            int sum = first + second + third + fourth;
            if (sum > total) {
                return;
            }
            int cost = first * asked[GROUPS] + second * asked[GROUPS + 1]
                    + third * asked[GROUPS + 2] + fourth * asked[GROUPS + 3];
            if (sum < total || cost < pay) {
                total = sum;
                pay = cost;
                counts[0] = first;
                counts[1] = second;
                counts[2] = third;
                counts[3] = fourth;
            }
        }
    }

    /** What comes when the readers go on as they are: when signs dry, and what a forger can do until then. */
    private static final class Plans {
        private final World world;

        Plans(World world) {
            this.world = world;
        }

        int dryHour(int leaf, int place) {
            int need = world.eyesAt(leaf, place);
            if (need == 0) {
                return world.hour();
            }
            int dry = NEVER;
            for (int reader = 0; reader < world.told().readers.size(); reader++) {
                int seen = seenHour(reader, leaf, place);
                if (seen < dry && eyesBy(leaf, place, seen) >= need) {
                    dry = seen;
                }
            }
            return dry;
        }

        private int eyesBy(int leaf, int place, int hour) {
            int count = 0;
            for (int reader = 0; reader < world.told().readers.size(); reader++) {
                if (seenHour(reader, leaf, place) <= hour) {
                    count++;
                }
            }
            return count;
        }

        private int seenHour(int reader, int leaf, int place) {
            int ahead = place - world.seatPlace(reader);
            if (world.seatLeaf(reader) != leaf || ahead < 0 || !world.told().looksAt(reader, place)) {
                return NEVER;
            }
            return world.hour() + ahead / world.told().paceOf(reader) + 1;
        }

        int lastBegin(int leaf, int from, int to, int pace, int till) {
            int hours = hoursFor(to - from, pace);
            for (int begin = latest(leaf, from, to, pace, till); begin >= world.hour(); begin--) {
                if (!isGuarded(begin, hours)) {
                    return begin;
                }
            }
            return NONE;
        }

        // Spans of hours that are all as long are barred the cheapest each at the end of the first open one.
        int fewestBars(int leaf, int from, int to, int pace, int till) {
            int hours = hoursFor(to - from, pace);
            int latest = latest(leaf, from, to, pace, till);
            int lastBar = NONE;
            int count = 0;
            for (int begin = world.hour(); begin <= latest; begin++) {
                if (begin > lastBar && !isGuarded(begin, hours)) {
                    lastBar = begin + hours - 1;
                    count++;
                }
            }
            return count;
        }

        private static int hoursFor(int ahead, int pace) {
            return pace > 0 ? ahead / pace + 1 : 1;
        }

        // A sign that is wet in an hour is wet in those before it, so an earlier begin is as good for all signs.
        private int latest(int leaf, int from, int to, int pace, int till) {
            int latest = till - hoursFor(to - from, pace) + 1;
            for (int place = from; place <= to; place++) {
                latest = Math.min(latest, dryHour(leaf, place) - hoursFor(place - from, pace));
            }
            return latest;
        }

        private boolean isGuarded(int begin, int hours) {
            for (int hour = begin; hour < begin + hours; hour++) {
                if (world.told().isGuarded(hour)) {
                    return true;
                }
            }
            return false;
        }
    }

    /** The rows of words that can have stood on a leaf, counted from each place to the end and from the start. */
    private static final class Texts {
        private final World world;
        private final long[] onward = new long[PLACES + 1];
        private final long[] upTo = new long[PLACES + 1];

        Texts(World world) {
            this.world = world;
        }

        long count(int leaf) {
            countOnward(leaf);
            return onward[0];
        }

        private void countOnward(int leaf) {
            int places = world.told().placesOf(leaf);
            Arrays.fill(onward, 0L);
            onward[places] = 1L;
            for (int place = places - 1; place >= 0; place--) {
                for (int word = 0; word < world.told().words.size(); word++) {
                    if (fits(leaf, word, place)) {
                        onward[place] = Math.min(MANY, onward[place] + onward[behind(word, place)]);
                    }
                }
            }
        }

        private void countUpTo(int leaf) {
            Arrays.fill(upTo, 0L);
            upTo[0] = 1L;
            for (int place = 0; place < world.told().placesOf(leaf); place++) {
                for (int word = 0; word < world.told().words.size(); word++) {
                    if (upTo[place] > 0 && fits(leaf, word, place)) {
                        int next = behind(word, place);
                        upTo[next] = Math.min(MANY, upTo[next] + upTo[place]);
                    }
                }
            }
        }

        private int behind(int word, int place) {
            return place + world.told().words.lengthOf(word);
        }

        private boolean fits(int leaf, int word, int place) {
            int next = behind(word, place);
            if (place < 0 || next <= place || next > world.told().placesOf(leaf)) {
                return false;
            }
            for (int at = place; at < next; at++) {
                int stands = world.letterAt(leaf, at);
                if (stands == 0) {
                    stands = world.ghostAt(leaf, at);
                }
                if (stands != 0 && stands != world.told().words.letterOf(word, at - place)) {
                    return false;
                }
            }
            return true;
        }

        int wordOf(int leaf, long k, int j) {
            countOnward(leaf);
            if (k >= onward[0] || k >= MANY) {
                return NONE;
            }
            long left = k;
            int place = 0;
            for (int i = 0; i < PLACES && place < world.told().placesOf(leaf); i++) {
                int chosen = NONE;
                for (int word = 0; word < world.told().words.size() && chosen == NONE; word++) {
                    long many = fits(leaf, word, place) ? onward[behind(word, place)] : 0L;
                    if (left < many) {
                        chosen = word;
                    } else {
                        left -= many;
                    }
                }
                if (chosen == NONE || i == j) {
                    return chosen;
                }
                place = behind(chosen, place);
            }
            return NONE;
        }

        int lettersAt(int leaf, int place) {
            countOnward(leaf);
            countUpTo(leaf);
            int bits = 0;
            for (int start = Math.max(0, place - WORD_LETTERS + 1); start <= place; start++) {
                for (int word = 0; word < world.told().words.size(); word++) {
                    if (behind(word, start) > place && stands(leaf, word, start)) {
                        bits |= 1 << (world.told().words.letterOf(word, place - start) - 1);
                    }
                }
            }
            return bits;
        }

        private boolean stands(int leaf, int word, int place) {
            return upTo[place] > 0 && fits(leaf, word, place) && onward[behind(word, place)] > 0;
        }

        long countBegun(int leaf, int word, int place) {
            countOnward(leaf);
            countUpTo(leaf);
            if (!stands(leaf, word, place)) {
                return 0L;
            }
            long before = upTo[place];
            long after = onward[behind(word, place)];
            return after > 0 && before > MANY / after ? MANY : before * after;
        }
    }

    /** The world as a row of bytes, and back. */
    private static final class Images {
        private static final int HOUR_BYTES = 2;
        private static final int SIGN_BYTES = 3;
        private static final int SEAT_BYTES = 2;

        static void compose(World world, Tape out) {
            out.cut(0);
            out.putByte(world.hour() >> 8);
            out.putByte(world.hour());
            for (int leaf = 0; leaf < world.told().leaves.size(); leaf++) {
                for (int place = 0; place < world.told().placesOf(leaf); place++) {
                    out.putByte(world.letterAt(leaf, place));
                    out.putByte(world.eyesAt(leaf, place));
                    out.putByte(world.ghostAt(leaf, place));
                }
            }
            for (int reader = 0; reader < world.told().readers.size(); reader++) {
                out.putByte(world.seatLeaf(reader) + 1);
                out.putByte(world.seatPlace(reader));
            }
            out.putByte(checkOf(out, out.size()));
        }

        private static int checkOf(Tape tape, int end) {
            int c = 57;
            for (int k = 0; k < end; k++) {
                c = (3 * c + tape.byteAt(k)) % 239;
            }
            return c;
        }

        static boolean isSuch(World world, Tape in) {
            int signs = 0;
            for (int leaf = 0; leaf < world.told().leaves.size(); leaf++) {
                signs += world.told().placesOf(leaf);
            }
            int seatsAt = HOUR_BYTES + SIGN_BYTES * signs;
            int end = seatsAt + SEAT_BYTES * world.told().readers.size();
            return in.size() == end + 1 && in.byteAt(end) == checkOf(in, end) && hourOf(in) <= LAST_HOUR
                    && areSigns(in, seatsAt) && areSeats(world.told(), in, seatsAt);
        }

        private static int hourOf(Tape in) {
            return 256 * in.byteAt(0) + in.byteAt(1);
        }

        private static boolean areSigns(Tape in, int end) {
            for (int k = HOUR_BYTES; k < end; k += SIGN_BYTES) {
                int letter = in.byteAt(k);
                int most = letter == 0 ? 0 : MOST_EYES;
                if (letter > LETTERS || in.byteAt(k + 1) > most || in.byteAt(k + 2) > LETTERS) {
                    return false;
                }
            }
            return true;
        }

        private static boolean areSeats(Book told, Tape in, int from) {
            for (int reader = 0; reader < told.readers.size(); reader++) {
                int leaf = in.byteAt(from + SEAT_BYTES * reader) - 1;
                int place = in.byteAt(from + SEAT_BYTES * reader + 1);
                boolean fits = leaf == NONE ? place == 0 : told.hasPlace(leaf, place);
                if (!fits) {
                    return false;
                }
            }
            return true;
        }

        static void take(World world, Tape in) {
            world.restart(hourOf(in));
            int k = HOUR_BYTES;
            for (int leaf = 0; leaf < world.told().leaves.size(); leaf++) {
                for (int place = 0; place < world.told().placesOf(leaf); place++) {
                    world.setSign(leaf, place, in.byteAt(k), in.byteAt(k + 1), in.byteAt(k + 2));
                    k += SIGN_BYTES;
                }
            }
            for (int reader = 0; reader < world.told().readers.size(); reader++) {
                world.putAt(reader, in.byteAt(k) - 1, in.byteAt(k + 1));
                k += SEAT_BYTES;
            }
        }
    }
}
