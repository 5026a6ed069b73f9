/**
 * Spelling neighbours found through shortened forms. The document that says what each call answers
 * is shared/DOC.md; words in capitals in the comments here are its terms.
 */
public final class NearSpell {
    public static final int NONE = -1;

    private static final int NOT_SO = -2;
    private static final int MOST_BYTES = 1600;
    private static final int BYTES_A_FEED = 20;
    private static final int MOST_WORDS = 10;
    private static final int MOST_NUMBERS = 14;
    private static final int MOST_LETTERS = 6;
    private static final int MOST_USED = 999;
    private static final int MOST_TYPED = 6;
    private static final int MOST_BUCKETS = 31;
    private static final int MOST_ERRORS = 2;
    private static final int MOST_FORMS = 22;
    private static final int MOST_APART = 6;
    private static final int MOST_ODDS = 4;
    private static final int BOXES = 3;
    private static final int BASE = 27;
    private static final int[] POWERS = {1, 27, 729, 19683, 531441, 14348907, 387420489};

    private final byte[] tape;
    private int tapeSize;
    private final Book told;
    private final Book draft;
    private final Reader reader;
    private final State state;
    private final Archive archive;
    private final Ruler ruler;
    private final Laid laid;
    private final Finder finder;
    private final Pieces pieces;
    private final Web web;
    private final Witness witness;
    private final int[] lying;
    private int lyingSize;

    public NearSpell() {
        tape = new byte[MOST_BYTES];
        told = new Book();
        draft = new Book();
        reader = new Reader(tape, draft);
        state = new State();
        archive = new Archive();
        ruler = new Ruler();
        laid = new Laid(told, state);
        finder = new Finder(told, state, laid, ruler);
        pieces = new Pieces(state, ruler);
        web = new Web(state, ruler);
        witness = new Witness(told, ruler);
        lying = new int[MOST_FORMS];
        tapeSize = 0;
        lyingSize = 0;
    }

    public int feed(int a, int b, int c, int d, int e) {
        if (tapeSize + BYTES_A_FEED > MOST_BYTES) {
            return NONE;
        }
        putBytes(a);
        putBytes(b);
        putBytes(c);
        putBytes(d);
        putBytes(e);
        return tapeSize;
    }

    public int end(int n) {
        if (n < 0 || n > tapeSize) {
            return NONE;
        }
        tapeSize = n;
        return n;
    }

    public int book() {
        if (!reader.readText(tapeSize)) {
            return NONE;
        }
        told.takeOver(draft);
        state.begin(told);
        archive.dropActs(state);
        archive.dropBoxes();
        witness.dropSeen();
        tapeSize = 0;
        lyingSize = 0;
        return told.words;
    }

    public int fault(int what) {
        if (what == 0) {
            return reader.faultKind;
        }
        return what == 1 ? reader.faultPlace : NONE;
    }

    public int entry(int entry, int what) {
        if (!state.isEntry(entry)) {
            return NONE;
        }
        switch (what) {
            case 0:
                return state.spellingOf(entry);
            case 1:
                return lengthOf(state.spellingOf(entry));
            case 2:
                return state.usesOf(entry);
            case 3:
                return laid.formsOf(entry).size;
            default:
                return NONE;
        }
    }

    public int learn(int spelling, int used) {
        if (!canBe(spelling) || used < 0 || used > MOST_USED) {
            return NONE;
        }
        if (state.numberOf(spelling) != NONE || state.given() >= MOST_NUMBERS) {
            return NONE;
        }
        int number = state.addEntry(spelling, used);
        archive.keepAct(state);
        return number;
    }

    public int forget(int entry) {
        if (!state.isEntry(entry)) {
            return NONE;
        }
        state.dropEntry(entry);
        archive.keepAct(state);
        return state.entries();
    }

    public int use(int entry) {
        if (!state.isEntry(entry) || state.usesOf(entry) >= MOST_USED) {
            return NONE;
        }
        state.useOnce(entry);
        archive.keepAct(state);
        return state.usesOf(entry);
    }

    public int type(int spelling) {
        if (!canBe(spelling) || state.phraseSize() >= MOST_TYPED) {
            return NOT_SO;
        }
        int came = state.addTyped(spelling, told.slips);
        archive.keepAct(state);
        return finder.nearestTo(came);
    }

    public int wipe() {
        int were = state.phraseSize();
        if (were == 0) {
            return NONE;
        }
        state.dropPhrase();
        archive.keepAct(state);
        return were;
    }

    public boolean undo() {
        return archive.takeBack(state);
    }

    public boolean redo() {
        return archive.doAgain(state);
    }

    public int typed(int i) {
        return i >= 0 && i < state.phraseSize() ? state.typedAt(i) : NONE;
    }

    public int distance(int spelling, int other) {
        if (!canBe(spelling) || !canBe(other)) {
            return NONE;
        }
        return ruler.between(spelling, other);
    }

    public int forms(int spelling) {
        lyingSize = 0;
        if (!canBe(spelling)) {
            return NONE;
        }
        FormList list = laid.formsFor(spelling);
        for (int i = 0; i < list.size && i < lying.length; i++) {
            lying[i] = list.list[i];
        }
        lyingSize = list.size;
        return lyingSize;
    }

    public int bucket(int form) {
        return canBe(form) ? told.bucketOf(form) : NONE;
    }

    public int met(int spelling, int what) {
        if (!canBe(spelling)) {
            return NONE;
        }
        switch (what) {
            case 0:
                return finder.metBy(spelling);
            case 1:
                return finder.trulyMetBy(spelling);
            case 2:
                return finder.metBy(spelling) & ~finder.trulyMetBy(spelling);
            default:
                return NONE;
        }
    }

    public int missed(int spelling, int d) {
        if (!canBe(spelling) || !isApart(d)) {
            return NONE;
        }
        return finder.within(spelling, d) & ~finder.trulyMetBy(spelling);
    }

    public int nearest(int spelling) {
        return canBe(spelling) ? finder.nearestTo(spelling) : NONE;
    }

    public int near(int spelling, int d) {
        lyingSize = 0;
        if (!canBe(spelling) || !isApart(d)) {
            return NONE;
        }
        lyingSize = finder.listNear(spelling, d, lying);
        return lyingSize;
    }

    public int split(int spelling, int what) {
        if (!canBe(spelling) || what < 0 || what > 2 || state.entries() == 0) {
            return NONE;
        }
        pieces.weighSplit(spelling);
        if (what == 2) {
            return pieces.least;
        }
        return what == 0 ? pieces.first : pieces.other;
    }

    public int join(int i, int what) {
        if (i < 0 || i >= state.phraseSize() - 1 || what < 0 || what > 1 || state.entries() == 0) {
            return NONE;
        }
        pieces.weighJoined(i);
        return what == 0 ? pieces.first : pieces.least;
    }

    public int reading() {
        return pieces.readPhrase() ? pieces.cost() : NONE;
    }

    public int readings() {
        return pieces.readPhrase() ? pieces.ways() : NONE;
    }

    public int closest(int what) {
        if (what < 0 || what > 2 || state.entries() < 2) {
            return NONE;
        }
        return web.closestPair(what);
    }

    public int groups(int d) {
        return isApart(d) ? web.countGroups(d) : NONE;
    }

    public int far(int d, int what) {
        if (!isApart(d) || what < 0 || what > 1) {
            return NONE;
        }
        int chosen = web.farApart(d);
        return what == 0 ? Integer.bitCount(chosen) : chosen;
    }

    public int middle() {
        return web.middleEntry();
    }

    public int chain(int entry, int other, int d) {
        if (!state.isEntry(entry) || !state.isEntry(other) || !isApart(d)) {
            return NONE;
        }
        return web.stepsBetween(entry, other, d);
    }

    public int begins(int spelling) {
        return canBe(spelling) ? finder.mostUsedFrom(spelling) : NONE;
    }

    public int crowded(int d) {
        return isApart(d) ? web.countCrowded(d) : NONE;
    }

    public int load(int bucket) {
        return bucket >= 0 && bucket < told.buckets ? laid.countIn(bucket) : NONE;
    }

    public int fullest() {
        return laid.fullestBucket();
    }

    public int store() {
        return laid.countAll(told.errors);
    }

    public int clashes() {
        return laid.countClashes();
    }

    public int rarest() {
        return laid.rarestEntry();
    }

    public int law(int n) {
        return n >= 0 && n <= MOST_ERRORS ? laid.countAll(n) : NONE;
    }

    public int odds(int n, int part) {
        if (n < 0 || n > MOST_ODDS || part < 0 || part > 1) {
            return NONE;
        }
        int upper = 100 - told.slips;
        int common = commonDivisor(100, upper);
        int once = part == 0 ? upper : 100;
        if (common > 0) {
            once = once / common;
        }
        int answer = 1;
        for (int i = 0; i < n; i++) {
            answer = answer * once;
        }
        return answer;
    }

    public int lies(int i) {
        return i >= 0 && i < lyingSize && i < lying.length ? lying[i] : NOT_SO;
    }

    public int seen(int spelling, int d, boolean is) {
        if (!canBe(spelling) || !isApart(d)) {
            return NONE;
        }
        return witness.tell(spelling, d, is);
    }

    public boolean untell(int seen) {
        return witness.takeBack(seen);
    }

    public int later(int by) {
        return witness.goOn(by);
    }

    public int fits(int k) {
        return witness.fitting(k);
    }

    public int ask(int what, int k) {
        if (what < 0 || what > 1) {
            return NONE;
        }
        return witness.bestToAsk(what, k);
    }

    public int image(int box) {
        if (box < 0 || box >= BOXES) {
            return NONE;
        }
        archive.keepBox(box, state);
        return state.entries();
    }

    public int back(int box) {
        if (!archive.openBox(box, state)) {
            return NONE;
        }
        archive.dropActs(state);
        return state.entries();
    }

    public int about(int what) {
        switch (what) {
            case 0:
                return told.words;
            case 1:
                return state.entries();
            case 2:
                return state.given();
            case 3:
                return state.phraseSize();
            case 4:
                return told.prefix;
            case 5:
                return told.errors;
            case 6:
                return told.buckets;
            case 7:
                return state.seed();
            case 8:
                return archive.done;
            case 9:
                return archive.undone;
            case 10:
                return witness.size;
            case 11:
                return witness.time;
            case 12:
                return tapeSize;
            case 13:
                return told.units;
            case 14:
                return lyingSize;
            case 15:
                return told.slips;
            default:
                return NONE;
        }
    }

    private void putBytes(int number) {
        for (int shift = 24; shift >= 0 && tapeSize < tape.length; shift -= 8) {
            tape[tapeSize] = (byte) (number >> shift);
            tapeSize++;
        }
    }

    private static boolean isApart(int d) {
        return d >= 0 && d <= MOST_APART;
    }

    private static int commonDivisor(int one, int other) {
        int high = one;
        int low = other;
        for (int i = 0; i < 100 && low != 0; i++) {
            int rest = high % low;
            high = low;
            low = rest;
        }
        return high;
    }

    /** Whether a number tells a SPELLING: six letters at most, none of them 0. */
    private static boolean canBe(int spelling) {
        if (spelling < 0 || spelling >= POWERS[MOST_LETTERS]) {
            return false;
        }
        int rest = spelling;
        for (int i = 0; i < MOST_LETTERS && rest != 0; i++) {
            if (rest % BASE == 0) {
                return false;
            }
            rest = rest / BASE;
        }
        return true;
    }

    private static int lengthOf(int spelling) {
        int length = 0;
        while (length < MOST_LETTERS && spelling >= POWERS[length]) {
            length++;
        }
        return length;
    }

    private static int totalOf(int spelling) {
        int total = 0;
        int rest = spelling;
        for (int i = 0; i < MOST_LETTERS && rest != 0; i++) {
            total += rest % BASE;
            rest = rest / BASE;
        }
        return total;
    }

    /** The first letters of a SPELLING, or all of them if it has not so many. */
    private static int beginningOf(int spelling, int letters) {
        int over = lengthOf(spelling) - letters;
        return over > 0 && over <= MOST_LETTERS ? spelling / POWERS[over] : spelling;
    }

    /** A SPELLING without the letter that has so many letters behind it. */
    private static int without(int spelling, int behind) {
        if (behind < 0 || behind >= MOST_LETTERS) {
            return spelling;
        }
        return spelling / POWERS[behind + 1] * POWERS[behind] + spelling % POWERS[behind];
    }

    /** What a BOOK tells, with hash as steps of a stack machine (no steps: hash is not told). */
    private static final class Book {
        private static final int MOST_STEPS = 300;
        private static final int MOST_ON_STACK = 32;

        final int[] names = new int[MOST_WORDS];
        final int[] uses = new int[MOST_WORDS];
        private final int[] steps = new int[MOST_STEPS];
        private final int[] stack = new int[MOST_ON_STACK];
        int words;
        int prefix;
        int errors;
        int buckets;
        int slips;
        int draw;
        int units;
        private int stepCount;
        private int top;

        Book() {
            reset();
        }

        void reset() {
            words = 0;
            prefix = 4;
            errors = 2;
            buckets = 13;
            slips = 0;
            draw = 0;
            units = 0;
            stepCount = 0;
            top = 0;
        }

        void takeOver(Book from) {
            System.arraycopy(from.names, 0, names, 0, MOST_WORDS);
            System.arraycopy(from.uses, 0, uses, 0, MOST_WORDS);
            System.arraycopy(from.steps, 0, steps, 0, MOST_STEPS);
            words = from.words;
            prefix = from.prefix;
            errors = from.errors;
            buckets = from.buckets;
            slips = from.slips;
            draw = from.draw;
            units = from.units;
            stepCount = from.stepCount;
        }

        boolean tells(int name) {
            for (int i = 0; i < words; i++) {
                if (names[i] == name) {
                    return true;
                }
            }
            return false;
        }

        void addWord(int name, int used) {
            if (words < MOST_WORDS) {
                names[words] = name;
                uses[words] = used;
                words++;
            }
        }

        /** A step is a number as it stands, or a token (all but numbers) below 0. */
        void addStep(int step) {
            if (stepCount < MOST_STEPS) {
                steps[stepCount] = step;
                stepCount++;
            }
        }

        int bucketOf(int form) {
            int number = stepCount == 0 ? totalOf(form) * 7 + lengthOf(form) : work(form);
            if (buckets <= 0) {
                return 0;
            }
            int rest = number % buckets;
            return rest < 0 ? rest + buckets : rest;
        }

        private int work(int form) {
            int total = totalOf(form);
            int length = lengthOf(form);
            int first = beginningOf(form, 1);
            int last = form % BASE;
            top = 0;
            for (int i = 0; i < stepCount; i++) {
                int step = steps[i];
                if (step >= 0) {
                    push(step);
                } else if (step == -Reader.TOTAL) {
                    push(total);
                } else if (step == -Reader.LENGTH) {
                    push(length);
                } else if (step == -Reader.FIRST) {
                    push(first);
                } else if (step == -Reader.LAST) {
                    push(last);
                } else if (step == -Reader.NOT) {
                    push(truth(pop() == 0));
                } else {
                    int right = pop();
                    push(combine(-step, pop(), right));
                }
            }
            return pop();
        }

        private void push(int number) {
            if (top >= 0 && top < MOST_ON_STACK) {
                stack[top] = number;
                top++;
            }
        }

        private int pop() {
            if (top <= 0 || top > MOST_ON_STACK) {
                return 0;
            }
            top--;
            return stack[top];
        }

        private static int truth(boolean so) {
            return so ? 1 : 0;
        }

        private static int combine(int sign, int left, int right) {
            switch (sign) {
                case '+':
                    return left + right;
                case '-':
                    return left - right;
                case '*':
                    return left * right;
                case '/':
                    return right == 0 ? 0 : left / right;
                case '%':
                    return right == 0 ? 0 : left % right;
                case '<':
                    return truth(left < right);
                case '>':
                    return truth(left > right);
                case '=':
                    return truth(left == right);
                case Reader.AND:
                    return truth(left != 0 && right != 0);
                case Reader.OR:
                    return truth(left != 0 || right != 0);
                default:
                    return 0;
            }
        }
    }

    /**
     * Reads the TAPE into a draft of a BOOK. A token is looked at wholly before the next one is
     * taken, so the first FAULT that is found is the first by its place.
     */
    private static final class Reader {
        static final int WORD = 0;
        static final int PREFIX = 1;
        static final int ERRORS = 2;
        static final int HASH = 3;
        static final int BUCKETS = 4;
        static final int SLIPS = 5;
        static final int DRAW = 6;
        static final int OR = 7;
        static final int AND = 8;
        static final int NOT = 9;
        static final int TOTAL = 10;
        static final int LENGTH = 11;
        static final int FIRST = 12;
        static final int LAST = 13;
        // Each of the words that stand for themselves, by the numbers above, in eight places.
        private static final String OWN_WORDS = "word    prefix  errors  hash    buckets slips   draw    or      and     not     total   length  first   last    ";
        private static final int OWN_COUNT = 14;
        private static final int OWN_WIDTH = 8;
        // A sign is told by its byte; these lie below all of them.
        private static final int NAME = 14;
        private static final int NUMBER = 15;
        private static final int END = 16;
        private static final int BROKEN = 17;
        private static final String SIGNS = ";()<>=+-*/%";

        private static final int NO_TOKEN = 1;
        private static final int MISPLACED = 2;
        private static final int TOLD_ALREADY = 3;
        private static final int CANNOT_BE = 4;

        private static final int MOST_WORD_LETTERS = 8;
        private static final int MOST_DIGITS = 4;
        private static final int MOST_UNITS = 30;
        private static final int MOST_WITHIN = 6;

        private final byte[] text;
        private final Book draft;
        private int size;
        private int at;
        private int start;
        private int token;
        private int value;
        private int linesTold;
        int faultKind;
        int faultPlace;

        Reader(byte[] text, Book draft) {
            this.text = text;
            this.draft = draft;
            this.faultKind = 0;
            this.faultPlace = NONE;
        }

        boolean readText(int bytes) {
            draft.reset();
            size = Math.min(bytes, text.length);
            at = 0;
            linesTold = 0;
            faultKind = 0;
            faultPlace = NONE;
            takeToken();
            for (int lines = 0; lines <= MOST_BYTES && token != END && faultKind == 0; lines++) {
                readLine();
            }
            return faultKind == 0;
        }

        private void fail(int kind) {
            if (faultKind == 0) {
                faultKind = kind;
                faultPlace = start;
            }
            token = BROKEN;
        }

        private void readLine() {
            int line = token;
            if (line < WORD || line > DRAW || isTooMany(line)) {
                fail(MISPLACED);
                return;
            }
            linesTold |= 1 << line;
            takeToken();
            switch (line) {
                case WORD:
                    readWord();
                    break;
                case PREFIX:
                    draft.prefix = readNumber(1, MOST_LETTERS);
                    break;
                case ERRORS:
                    draft.errors = readNumber(0, MOST_ERRORS);
                    break;
                case HASH:
                    readEither(0);
                    break;
                case BUCKETS:
                    draft.buckets = readNumber(1, MOST_BUCKETS);
                    break;
                case SLIPS:
                    draft.slips = readNumber(0, 100);
                    break;
                default:
                    draft.draw = readNumber(0, 999);
                    break;
            }
            expect(';');
        }

        private boolean isTooMany(int line) {
            if (line == WORD) {
                return draft.words >= MOST_WORDS;
            }
            return (linesTold >> line & 1) != 0;
        }

        private void readWord() {
            int name = value;
            if (token != NAME) {
                fail(MISPLACED);
            } else if (at - start > MOST_LETTERS) {
                fail(CANNOT_BE);
            } else if (draft.tells(name)) {
                fail(TOLD_ALREADY);
            } else {
                takeToken();
                draft.addWord(name, readNumber(0, MOST_USED));
            }
        }

        private int readNumber(int least, int most) {
            int number = value;
            if (token != NUMBER) {
                fail(MISPLACED);
                return least;
            }
            if (number < least || number > most) {
                fail(CANNOT_BE);
                return least;
            }
            takeToken();
            return number;
        }

        private void expect(int sign) {
            if (token == sign) {
                takeToken();
            } else {
                fail(MISPLACED);
            }
        }

        private void readEither(int within) {
            readBoth(within);
            for (int more = 0; more < MOST_BYTES && token == OR; more++) {
                takeToken();
                readBoth(within);
                draft.addStep(-OR);
            }
        }

        private void readBoth(int within) {
            readOne(within);
            for (int more = 0; more < MOST_BYTES && token == AND; more++) {
                takeToken();
                readOne(within);
                draft.addStep(-AND);
            }
        }

        private void readOne(int within) {
            if (token == NOT) {
                if (within > MOST_WITHIN) {
                    fail(MISPLACED);
                    return;
                }
                takeToken();
                readOne(within + 1);
                draft.addStep(-NOT);
                return;
            }
            readSum(within);
            int relation = token;
            if (relation == '<' || relation == '>' || relation == '=') {
                takeToken();
                readSum(within);
                draft.addStep(-relation);
            }
        }

        private void readSum(int within) {
            readTerm(within);
            for (int more = 0; more < MOST_BYTES && (token == '+' || token == '-'); more++) {
                int sign = token;
                takeToken();
                readTerm(within);
                draft.addStep(-sign);
            }
        }

        private void readTerm(int within) {
            readUnit(within);
            for (int more = 0; more < MOST_BYTES && (token == '*' || token == '/' || token == '%'); more++) {
                int sign = token;
                takeToken();
                readUnit(within);
                draft.addStep(-sign);
            }
        }

        private void readUnit(int within) {
            boolean nested = token == '(';
            boolean named = token >= TOTAL && token <= LAST;
            if (!nested && !named && token != NUMBER) {
                fail(MISPLACED);
                return;
            }
            if (draft.units >= MOST_UNITS || nested && within > MOST_WITHIN) {
                fail(MISPLACED);
                return;
            }
            draft.units++;
            if (!nested) {
                draft.addStep(named ? -token : value);
                takeToken();
                return;
            }
            takeToken();
            readEither(within + 1);
            expect(')');
        }

        private void takeToken() {
            if (faultKind != 0) {
                return;
            }
            while (at < size && (text[at] == ' ' || text[at] == '\n')) {
                at++;
            }
            start = at;
            if (at >= size) {
                token = END;
            } else if (isLetter(at)) {
                takeLetters();
            } else if (isDigit(at)) {
                takeDigits();
            } else if (text[at] > 0 && SIGNS.indexOf((char) text[at]) >= 0) {
                token = text[at];
                at++;
            } else {
                fail(NO_TOKEN);
            }
        }

        private void takeLetters() {
            value = 0;
            while (at < size && isLetter(at)) {
                value = value * BASE + text[at] - 'a' + 1;
                at++;
            }
            if (at - start > MOST_WORD_LETTERS) {
                fail(NO_TOKEN);
                return;
            }
            token = NAME;
            for (int own = 0; own < OWN_COUNT; own++) {
                if (isOwnWord(own)) {
                    token = own;
                }
            }
        }

        private void takeDigits() {
            value = 0;
            while (at < size && isDigit(at)) {
                value = value * 10 + text[at] - '0';
                at++;
            }
            if (at - start > MOST_DIGITS || isLetter(at)) {
                fail(NO_TOKEN);
                return;
            }
            token = NUMBER;
        }

        private boolean isOwnWord(int own) {
            for (int i = 0; i < OWN_WIDTH; i++) {
                char due = OWN_WORDS.charAt(own * OWN_WIDTH + i);
                char found = start + i < at ? (char) (text[start + i] & 255) : ' ';
                if (due != found) {
                    return false;
                }
            }
            return true;
        }

        private boolean isLetter(int place) {
            return place < size && text[place] >= 'a' && text[place] <= 'z';
        }

        private boolean isDigit(int place) {
            return place < size && text[place] >= '0' && text[place] <= '9';
        }
    }

    /** ENTRIES, the PHRASE and the SEED, in one row, so that it can be kept and fetched at once. */
    private static final class State {
        static final int CELLS = 37;
        private static final int SPELLINGS = 0;
        private static final int USES = 14;
        private static final int PHRASE = 28;
        private static final int GIVEN = 34;
        private static final int TYPED = 35;
        private static final int SEED = 36;
        private static final int FORGOTTEN = -1;

        final int[] cells = new int[CELLS];

        void begin(Book book) {
            for (int i = 0; i < CELLS; i++) {
                cells[i] = 0;
            }
            for (int i = 0; i < book.words; i++) {
                addEntry(book.names[i], book.uses[i]);
            }
            cells[SEED] = book.draw;
        }

        int given() {
            return cells[GIVEN];
        }

        int phraseSize() {
            return cells[TYPED];
        }

        int seed() {
            return cells[SEED];
        }

        boolean isEntry(int number) {
            return number >= 0 && number < cells[GIVEN] && cells[USES + number] != FORGOTTEN;
        }

        int spellingOf(int number) {
            return number >= 0 && number < MOST_NUMBERS ? cells[SPELLINGS + number] : 0;
        }

        int usesOf(int number) {
            return number >= 0 && number < MOST_NUMBERS ? cells[USES + number] : 0;
        }

        int typedAt(int i) {
            return i >= 0 && i < MOST_TYPED ? cells[PHRASE + i] : 0;
        }

        int entries() {
            int count = 0;
            for (int i = 0; i < cells[GIVEN]; i++) {
                if (isEntry(i)) {
                    count++;
                }
            }
            return count;
        }

        int numberOf(int spelling) {
            for (int i = 0; i < cells[GIVEN]; i++) {
                if (isEntry(i) && spellingOf(i) == spelling) {
                    return i;
                }
            }
            return NONE;
        }

        int addEntry(int spelling, int used) {
            int number = cells[GIVEN];
            if (number >= MOST_NUMBERS) {
                return NONE;
            }
            cells[SPELLINGS + number] = spelling;
            cells[USES + number] = used;
            cells[GIVEN]++;
            return number;
        }

        void dropEntry(int number) {
            if (isEntry(number)) {
                cells[USES + number] = FORGOTTEN;
            }
        }

        void useOnce(int number) {
            if (isEntry(number)) {
                cells[USES + number]++;
            }
        }

        /** Answers what went behind the PHRASE, which lacks its last letter by a slip. */
        int addTyped(int spelling, int slips) {
            cells[SEED] = (cells[SEED] * 137 + 71) % 1000;
            int came = cells[SEED] % 100 < slips ? spelling / BASE : spelling;
            if (cells[TYPED] < MOST_TYPED) {
                cells[PHRASE + cells[TYPED]] = came;
                cells[TYPED]++;
            }
            return came;
        }

        void dropPhrase() {
            cells[TYPED] = 0;
        }
    }

    /** States kept: one behind each ACT, in a ring, and those in BOXES. */
    private static final class Archive {
        private static final int MOST_ACTS = 40;
        // The state ahead of the oldest ACT that is kept needs a row too.
        private static final int ROWS = 41;

        private final int[] rows = new int[ROWS * State.CELLS];
        private final int[] boxes = new int[BOXES * State.CELLS];
        private int boxesKept = 0;
        private int oldest = 0;
        int done = 0;
        int undone = 0;

        void dropActs(State state) {
            oldest = 0;
            done = 0;
            undone = 0;
            keepRow(state);
        }

        void keepAct(State state) {
            undone = 0;
            if (done < MOST_ACTS) {
                done++;
            } else {
                oldest = (oldest + 1) % ROWS;
            }
            keepRow(state);
        }

        boolean takeBack(State state) {
            if (done == 0) {
                return false;
            }
            done--;
            undone++;
            fetchRow(state);
            return true;
        }

        boolean doAgain(State state) {
            if (undone == 0) {
                return false;
            }
            done++;
            undone--;
            fetchRow(state);
            return true;
        }

        private int rowPlace() {
            return (oldest + done) % ROWS * State.CELLS;
        }

        private void keepRow(State state) {
            System.arraycopy(state.cells, 0, rows, rowPlace(), State.CELLS);
        }

        private void fetchRow(State state) {
            System.arraycopy(rows, rowPlace(), state.cells, 0, State.CELLS);
        }

        void dropBoxes() {
            boxesKept = 0;
        }

        void keepBox(int box, State state) {
            if (box >= 0 && box < BOXES) {
                System.arraycopy(state.cells, 0, boxes, box * State.CELLS, State.CELLS);
                boxesKept |= 1 << box;
            }
        }

        boolean openBox(int box, State state) {
            if (box < 0 || box >= BOXES || (boxesKept >> box & 1) == 0) {
                return false;
            }
            System.arraycopy(boxes, box * State.CELLS, state.cells, 0, State.CELLS);
            return true;
        }
    }

    /**
     * DISTANCES of one text to others that grow letter by letter: a row of the table holds how far
     * all beginnings of the text are from so many letters of the other one.
     */
    private static final class Ruler {
        private static final int MOST = 12;
        private static final int WIDTH = 13;

        private final int[] text = new int[MOST];
        private final int[] other = new int[MOST];
        private final int[] table = new int[WIDTH * WIDTH];
        private int textSize = 0;
        private int otherSize = 0;

        Ruler() {
            for (int i = 0; i < WIDTH; i++) {
                table[i] = i;
            }
        }

        int between(int spelling, int against) {
            setText(spelling);
            return to(against);
        }

        void setText(int spelling) {
            textSize = putLetters(spelling, text, 0);
            otherSize = 0;
        }

        void addText(int spelling) {
            textSize = putLetters(spelling, text, textSize);
            otherSize = 0;
        }

        int to(int spelling) {
            return toLonger(0, spelling);
        }

        /** Lets the other text begin anew with a SPELLING: how many letters it has then. */
        int restart(int spelling) {
            toLonger(0, spelling);
            return otherSize;
        }

        /** The DISTANCE to the first letters of the other text with a SPELLING behind them. */
        int toLonger(int letters, int spelling) {
            int from = Math.max(0, Math.min(letters, otherSize));
            otherSize = putLetters(spelling, other, from);
            for (int row = from + 1; row <= otherSize; row++) {
                fillRow(row);
            }
            return table[otherSize * WIDTH + textSize];
        }

        /** Answers how many letters there are then; what has no room is not put. */
        private static int putLetters(int spelling, int[] letters, int from) {
            int to = from + lengthOf(spelling);
            if (to > letters.length) {
                return from;
            }
            int rest = spelling;
            for (int i = to - 1; i >= from; i--) {
                letters[i] = rest % BASE;
                rest = rest / BASE;
            }
            return to;
        }

        private void fillRow(int row) {
            if (row < 1 || row > MOST) {
                return;
            }
            int letter = other[row - 1];
            int ahead = row > 1 ? other[row - 2] : 0;
            int place = row * WIDTH;
            table[place] = row;
            for (int i = 1; i <= textSize; i++) {
                place++;
                int least = table[place - WIDTH - 1];
                if (text[i - 1] != letter) {
                    least = 1 + Math.min(least, Math.min(table[place - 1], table[place - WIDTH]));
                    if (row > 1 && i > 1 && text[i - 1] == ahead && text[i - 2] == letter) {
                        least = Math.min(least, table[place - 2 * WIDTH - 2] + 1);
                    }
                }
                table[place] = least;
            }
        }
    }

    /** FORMS of one SPELLING, the least numbers first. */
    private static final class FormList {
        final int[] list = new int[MOST_FORMS];
        int size = 0;
        private int spelling = NONE;
        private int prefix = 0;
        private int errors = 0;

        void fill(int spellingDue, int prefixDue, int errorsDue) {
            if (spelling == spellingDue && prefix == prefixDue && errors == errorsDue) {
                return;
            }
            spelling = spellingDue;
            prefix = prefixDue;
            errors = errorsDue;
            size = 0;
            int whole = beginningOf(spelling, prefix);
            add(whole);
            if (errors > 0) {
                shorten(whole);
            }
        }

        private void shorten(int whole) {
            int length = lengthOf(whole);
            for (int i = 0; i < length; i++) {
                int shorter = without(whole, i);
                add(shorter);
                for (int k = 0; errors > 1 && k < length - 1; k++) {
                    add(without(shorter, k));
                }
            }
        }

        private void add(int form) {
            int place = size;
            while (place > 0 && list[place - 1] > form) {
                place--;
            }
            if (place > 0 && list[place - 1] == form || size >= list.length) {
                return;
            }
            for (int i = size; i > place; i--) {
                list[i] = list[i - 1];
            }
            list[place] = form;
            size++;
        }

        boolean has(int form) {
            for (int i = 0; i < size && list[i] <= form; i++) {
                if (list[i] == form) {
                    return true;
                }
            }
            return false;
        }

        boolean shares(FormList with) {
            for (int i = 0; i < size; i++) {
                if (with.has(list[i])) {
                    return true;
                }
            }
            return false;
        }

        int bucketBits(Book book) {
            int bits = 0;
            for (int i = 0; i < size; i++) {
                bits |= 1 << book.bucketOf(list[i]);
            }
            return bits;
        }
    }

    /** How the FORMS of ENTRIES are laid by in BUCKETS. */
    private static final class Laid {
        private final Book book;
        private final State state;
        private final FormList[] rows;
        private final FormList asked;
        private final int[] counts;

        Laid(Book book, State state) {
            this.book = book;
            this.state = state;
            rows = new FormList[MOST_NUMBERS];
            for (int i = 0; i < MOST_NUMBERS; i++) {
                rows[i] = new FormList();
            }
            asked = new FormList();
            counts = new int[MOST_BUCKETS];
        }

        FormList formsFor(int spelling) {
            asked.fill(spelling, book.prefix, book.errors);
            return asked;
        }

        FormList formsOf(int entry) {
            if (entry < 0 || entry >= MOST_NUMBERS) {
                return formsFor(0);
            }
            rows[entry].fill(state.spellingOf(entry), book.prefix, book.errors);
            return rows[entry];
        }

        private void refresh() {
            for (int i = 0; i < state.given() && i < rows.length; i++) {
                rows[i].fill(state.spellingOf(i), book.prefix, book.errors);
            }
        }

        int countIn(int bucket) {
            tally(false);
            return bucket >= 0 && bucket < MOST_BUCKETS ? counts[bucket] : 0;
        }

        int fullestBucket() {
            tally(false);
            int best = 0;
            for (int i = 1; i < MOST_BUCKETS; i++) {
                if (counts[i] > counts[best]) {
                    best = i;
                }
            }
            return best;
        }

        int countAll(int errors) {
            int count = 0;
            for (int i = 0; i < state.given(); i++) {
                if (state.isEntry(i)) {
                    asked.fill(state.spellingOf(i), book.prefix, errors);
                    count += asked.size;
                }
            }
            return count;
        }

        int countClashes() {
            tally(true);
            int pairs = 0;
            for (int i = 0; i < MOST_BUCKETS; i++) {
                pairs += counts[i] * (counts[i] - 1) / 2;
            }
            return pairs;
        }

        int rarestEntry() {
            refresh();
            int best = NONE;
            int most = -1;
            for (int i = 0; i < state.given(); i++) {
                int own = state.isEntry(i) ? countOwn(i) : -1;
                if (own > most) {
                    best = i;
                    most = own;
                }
            }
            return best;
        }

        private int countOwn(int entry) {
            FormList forms = rows[entry];
            int own = 0;
            for (int i = 0; i < forms.size; i++) {
                if (!isOfOthers(forms.list[i], entry, state.given())) {
                    own++;
                }
            }
            return own;
        }

        private boolean isOfOthers(int form, int entry, int below) {
            for (int i = 0; i < below; i++) {
                if (i != entry && state.isEntry(i) && rows[i].has(form)) {
                    return true;
                }
            }
            return false;
        }

        /** Counts FORMS by BUCKETS: each once, or as often as it is an ENTRY's. */
        private void tally(boolean eachOnce) {
            refresh();
            for (int i = 0; i < MOST_BUCKETS; i++) {
                counts[i] = 0;
            }
            for (int i = 0; i < state.given(); i++) {
                if (state.isEntry(i)) {
                    tallyEntry(i, eachOnce);
                }
            }
        }

        private void tallyEntry(int entry, boolean eachOnce) {
            FormList forms = rows[entry];
            for (int i = 0; i < forms.size; i++) {
                int bucket = book.bucketOf(forms.list[i]);
                boolean counted = eachOnce && isOfOthers(forms.list[i], entry, entry);
                if (!counted && bucket < MOST_BUCKETS) {
                    counts[bucket]++;
                }
            }
        }
    }

    /** Who is MET, and who of these is near. */
    private static final class Finder {
        private final Book book;
        private final State state;
        private final Laid laid;
        private final Ruler ruler;
        private final int[] apart;

        Finder(Book book, State state, Laid laid, Ruler ruler) {
            this.book = book;
            this.state = state;
            this.laid = laid;
            this.ruler = ruler;
            this.apart = new int[MOST_NUMBERS];
        }

        int metBy(int spelling) {
            int buckets = laid.formsFor(spelling).bucketBits(book);
            int bits = 0;
            for (int i = 0; i < state.given(); i++) {
                if (state.isEntry(i) && (laid.formsOf(i).bucketBits(book) & buckets) != 0) {
                    bits |= 1 << i;
                }
            }
            return bits;
        }

        int trulyMetBy(int spelling) {
            FormList forms = laid.formsFor(spelling);
            int bits = 0;
            for (int i = 0; i < state.given(); i++) {
                if (state.isEntry(i) && laid.formsOf(i).shares(forms)) {
                    bits |= 1 << i;
                }
            }
            return bits;
        }

        int within(int spelling, int d) {
            ruler.setText(spelling);
            int bits = 0;
            for (int i = 0; i < state.given() && i < MOST_NUMBERS; i++) {
                if (state.isEntry(i)) {
                    apart[i] = ruler.to(state.spellingOf(i));
                    bits |= apart[i] <= d ? 1 << i : 0;
                }
            }
            return bits;
        }

        int nearestTo(int spelling) {
            int open = within(spelling, MOST_APART) & trulyMetBy(spelling);
            return firstOf(open);
        }

        /** Puts ENTRIES into the row, the nearest first: how many. */
        int listNear(int spelling, int d, int[] row) {
            int open = within(spelling, d) & trulyMetBy(spelling);
            int count = 0;
            for (int i = 0; i < MOST_NUMBERS && i < row.length && open != 0; i++) {
                row[i] = firstOf(open);
                open &= ~(1 << row[i]);
                count++;
            }
            return count;
        }

        private int firstOf(int open) {
            int best = NONE;
            for (int i = 0; i < MOST_NUMBERS; i++) {
                if ((open >> i & 1) != 0 && (best == NONE || comesAhead(i, best))) {
                    best = i;
                }
            }
            return best;
        }

        private boolean comesAhead(int entry, int of) {
            if (apart[entry] != apart[of]) {
                return apart[entry] < apart[of];
            }
            return state.usesOf(entry) > state.usesOf(of);
        }

        int mostUsedFrom(int spelling) {
            int letters = lengthOf(spelling);
            int best = NONE;
            for (int i = 0; i < state.given(); i++) {
                boolean from = state.isEntry(i) && beginningOf(state.spellingOf(i), letters) == spelling;
                if (from && (best == NONE || state.usesOf(i) > state.usesOf(best))) {
                    best = i;
                }
            }
            return best;
        }
    }

    /** Weighs ENTRIES, one or two one behind the other, against a text; READINGS of the PHRASE. */
    private static final class Pieces {
        private static final int TOO_MUCH = 1000;

        private final State state;
        private final Ruler ruler;
        private final int[] costs;
        private final int[] counts;
        int least;
        int first;
        int other;
        private int likeOnes;

        Pieces(State state, Ruler ruler) {
            this.state = state;
            this.ruler = ruler;
            costs = new int[MOST_TYPED + 1];
            counts = new int[MOST_TYPED + 1];
            forgetLeast();
        }

        void weighSplit(int spelling) {
            forgetLeast();
            ruler.setText(spelling);
            weighTwo(lengthOf(spelling), 0);
        }

        void weighJoined(int i) {
            forgetLeast();
            ruler.setText(state.typedAt(i));
            ruler.addText(state.typedAt(i + 1));
            weighSingle();
        }

        private void weighTyped(int i) {
            int spelling = state.typedAt(i);
            forgetLeast();
            ruler.setText(spelling);
            weighSingle();
            weighTwo(lengthOf(spelling), 1);
        }

        private void forgetLeast() {
            least = TOO_MUCH;
            first = NONE;
            other = NONE;
            likeOnes = 0;
        }

        private void note(int one, int two, int cost) {
            if (cost < least) {
                least = cost;
                first = one;
                other = two;
                likeOnes = 1;
            } else if (cost == least) {
                likeOnes++;
            }
        }

        private void weighSingle() {
            for (int i = 0; i < state.given(); i++) {
                if (state.isEntry(i)) {
                    note(i, NONE, ruler.to(state.spellingOf(i)));
                }
            }
        }

        private void weighTwo(int letters, int more) {
            for (int one = 0; one < state.given(); one++) {
                int ahead = state.isEntry(one) ? ruler.restart(state.spellingOf(one)) : 0;
                for (int two = 0; two < state.given() && state.isEntry(one); two++) {
                    // No two texts are nearer than their lengths: most pairs need no table.
                    int over = Math.abs(ahead + lengthOf(state.spellingOf(two)) - letters);
                    if (state.isEntry(two) && over + more <= least) {
                        note(one, two, ruler.toLonger(ahead, state.spellingOf(two)) + more);
                    }
                }
            }
        }

        /** False if there are no ENTRIES for what is typed. */
        boolean readPhrase() {
            int size = state.phraseSize();
            if (size > 0 && state.entries() == 0) {
                return false;
            }
            costs[0] = 0;
            counts[0] = 1;
            for (int i = 1; i <= size && i <= MOST_TYPED; i++) {
                weighTyped(i - 1);
                costs[i] = costs[i - 1] + least;
                counts[i] = counts[i - 1] * likeOnes;
                if (i > 1) {
                    weighJoined(i - 2);
                    takeJoined(i);
                }
            }
            return true;
        }

        private void takeJoined(int i) {
            if (i < 2 || i > MOST_TYPED) {
                return;
            }
            int cost = costs[i - 2] + least + 1;
            int count = counts[i - 2] * likeOnes;
            if (cost < costs[i]) {
                costs[i] = cost;
                counts[i] = count;
            } else if (cost == costs[i]) {
                counts[i] += count;
            }
        }

        int cost() {
            return costs[Math.min(state.phraseSize(), MOST_TYPED)];
        }

        int ways() {
            return counts[Math.min(state.phraseSize(), MOST_TYPED)];
        }
    }

    /** ENTRIES by their DISTANCES from one another. */
    private static final class Web {
        private final State state;
        private final Ruler ruler;
        private final int[] apart;
        private final int[] linked;
        private int all;

        Web(State state, Ruler ruler) {
            this.state = state;
            this.ruler = ruler;
            apart = new int[MOST_NUMBERS * MOST_NUMBERS];
            linked = new int[MOST_NUMBERS];
            all = 0;
        }

        private void measure() {
            all = 0;
            for (int i = 0; i < state.given(); i++) {
                if (!state.isEntry(i)) {
                    continue;
                }
                ruler.setText(state.spellingOf(i));
                for (int k = 0; k < i; k++) {
                    int steps = isIn(all, k) ? ruler.to(state.spellingOf(k)) : 0;
                    apart[i * MOST_NUMBERS + k] = steps;
                    apart[k * MOST_NUMBERS + i] = steps;
                }
                all |= 1 << i;
            }
        }

        private boolean isIn(int bits, int entry) {
            return (bits >> entry & 1) != 0;
        }

        private void link(int d) {
            measure();
            for (int i = 0; i < MOST_NUMBERS; i++) {
                linked[i] = 0;
                for (int k = 0; k < MOST_NUMBERS; k++) {
                    boolean both = k != i && isIn(all, i) && isIn(all, k);
                    if (both && apart[i * MOST_NUMBERS + k] <= d) {
                        linked[i] |= 1 << k;
                    }
                }
            }
        }

        int closestPair(int what) {
            measure();
            int first = NONE;
            int other = NONE;
            int least = MOST_APART + 1;
            for (int i = 0; i < MOST_NUMBERS; i++) {
                for (int k = i + 1; k < MOST_NUMBERS; k++) {
                    boolean both = isIn(all, i) && isIn(all, k);
                    if (both && apart[i * MOST_NUMBERS + k] < least) {
                        first = i;
                        other = k;
                        least = apart[i * MOST_NUMBERS + k];
                    }
                }
            }
            if (what == 2) {
                return least;
            }
            return what == 0 ? first : other;
        }

        int countGroups(int d) {
            link(d);
            int open = all;
            int count = 0;
            for (int i = 0; i < MOST_NUMBERS; i++) {
                if (isIn(open, i)) {
                    open &= ~hangingTo(1 << i);
                    count++;
                }
            }
            return count;
        }

        private int hangingTo(int bits) {
            int reached = bits;
            for (int i = 0; i < MOST_NUMBERS; i++) {
                reached = stepOn(reached);
            }
            return reached;
        }

        private int stepOn(int reached) {
            int more = reached;
            for (int i = 0; i < MOST_NUMBERS; i++) {
                if (isIn(reached, i)) {
                    more |= linked[i];
                }
            }
            return more;
        }

        int stepsBetween(int entry, int other, int d) {
            link(d);
            int reached = 1 << entry;
            for (int steps = 0; steps <= MOST_NUMBERS; steps++) {
                if (isIn(reached, other)) {
                    return steps;
                }
                reached = stepOn(reached);
            }
            return NONE;
        }

        int countCrowded(int d) {
            link(d);
            int count = 0;
            for (int i = 0; i < MOST_NUMBERS; i++) {
                if (linked[i] != 0) {
                    count++;
                }
            }
            return count;
        }

        int middleEntry() {
            measure();
            int best = NONE;
            int least = MOST_NUMBERS * MOST_APART + 1;
            for (int i = 0; i < MOST_NUMBERS; i++) {
                int sum = isIn(all, i) ? sumFrom(i) : least;
                if (sum < least) {
                    best = i;
                    least = sum;
                }
            }
            return best;
        }

        private int sumFrom(int entry) {
            int sum = 0;
            for (int i = 0; i < MOST_NUMBERS; i++) {
                if (i != entry && isIn(all, i)) {
                    sum += apart[entry * MOST_NUMBERS + i];
                }
            }
            return sum;
        }

        /** The least set as bits leaves out the highest number wherever as many stay without it. */
        int farApart(int d) {
            link(d);
            int open = all;
            int chosen = 0;
            int due = mostOf(open, MOST_NUMBERS - 1);
            for (int i = MOST_NUMBERS - 1; i >= 0; i--) {
                if (isIn(open, i)) {
                    open &= ~(1 << i);
                    if (mostOf(open, i - 1) < due) {
                        chosen |= 1 << i;
                        open &= ~linked[i];
                        due--;
                    }
                }
            }
            return chosen;
        }

        /** How many of the open ENTRIES, from the number down, can be far from one another. */
        private int mostOf(int open, int number) {
            if (number < 0 || number >= MOST_NUMBERS) {
                return 0;
            }
            if (!isIn(open, number)) {
                return mostOf(open, number - 1);
            }
            int rest = open & ~(1 << number);
            int with = 1 + mostOf(rest & ~linked[number], number - 1);
            // To leave it out can bring more only if two of its neighbours come instead.
            if (Integer.bitCount(rest & linked[number]) < 2) {
                return with;
            }
            return Math.max(with, mostOf(rest, number - 1));
        }
    }

    /** What is SEEN of the WORD that was meant, with the TIMES at which it is TOLD and UNTOLD. */
    private static final class Witness {
        private static final int MOST_SEEN = 30;
        private static final int MOST_LATER = 1000;
        private static final int LAST_TIME = 100000;
        private static final int NEVER = -1;

        private final Book book;
        private final Ruler ruler;
        private final int[] spellings = new int[MOST_SEEN];
        private final int[] limits = new int[MOST_SEEN];
        private final boolean[] truths = new boolean[MOST_SEEN];
        private final int[] toldAt = new int[MOST_SEEN];
        private final int[] untoldAt = new int[MOST_SEEN];
        private final int[] counts = new int[MOST_APART + 1];
        int size = 0;
        int time = 0;

        Witness(Book book, Ruler ruler) {
            this.book = book;
            this.ruler = ruler;
        }

        void dropSeen() {
            size = 0;
        }

        int goOn(int by) {
            if (by < 0 || by > MOST_LATER || time + by > LAST_TIME) {
                return NONE;
            }
            time += by;
            return time;
        }

        int tell(int spelling, int d, boolean is) {
            int number = size;
            if (book.words == 0 || number >= MOST_SEEN) {
                return NONE;
            }
            spellings[number] = spelling;
            limits[number] = d;
            truths[number] = is;
            toldAt[number] = time;
            untoldAt[number] = NEVER;
            size++;
            return number;
        }

        boolean takeBack(int number) {
            if (number < 0 || number >= size || untoldAt[number] != NEVER) {
                return false;
            }
            untoldAt[number] = time;
            return true;
        }

        private boolean countsAt(int number, int k) {
            boolean untold = untoldAt[number] != NEVER && untoldAt[number] <= k;
            return toldAt[number] <= k && !untold;
        }

        int fitting(int k) {
            int bits = 0;
            for (int word = 0; word < book.words; word++) {
                if (isFitting(book.names[word], k)) {
                    bits |= 1 << word;
                }
            }
            return bits;
        }

        private boolean isFitting(int name, int k) {
            ruler.setText(name);
            for (int i = 0; i < size; i++) {
                if (countsAt(i, k) && ruler.to(spellings[i]) <= limits[i] != truths[i]) {
                    return false;
                }
            }
            return true;
        }

        int bestToAsk(int what, int k) {
            int open = fitting(k);
            if (open == 0) {
                return NONE;
            }
            int best = NONE;
            int least = MOST_WORDS + 1;
            for (int word = 0; word < book.words; word++) {
                int left = mostLeftBy(book.names[word], open);
                if (left < least) {
                    best = word;
                    least = left;
                }
            }
            return what == 0 ? best : least;
        }

        private int mostLeftBy(int name, int open) {
            for (int i = 0; i < counts.length; i++) {
                counts[i] = 0;
            }
            ruler.setText(name);
            int most = 0;
            for (int word = 0; word < book.words; word++) {
                int steps = (open >> word & 1) != 0 ? ruler.to(book.names[word]) : NONE;
                if (steps >= 0 && steps < counts.length) {
                    counts[steps]++;
                    most = Math.max(most, counts[steps]);
                }
            }
            return most;
        }
    }
}
