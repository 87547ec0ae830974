import java.util.NoSuchElementException;

/**
 * Compiles an assertion about the signals a, b, c to the least monitor that raises the alarm as soon as nothing that
 * may come can save the assertion.
 */
public final class TraceWarden {
    private static final int MAX_TEXT = 40;
    private static final int MAX_DEPTH = 12;
    private static final int MAX_OBLIGATIONS = 9;
    private static final int MAX_CONDITIONS = 40;
    private static final int MAX_CYCLES = 60;
    private static final int LETTERS = 8;
    private static final int SIGNALS = 3;
    /** Enough for the codes of 40 states and of the failed one. */
    private static final int MAX_BITS = 6;
    /** A table with a bit for each set of obligations takes so many longs. */
    private static final int MAX_WORDS = 8;
    /** So many obligations tell the sets within one long apart; the others tell the longs apart. */
    private static final int OBLIGATIONS_IN_WORD = 6;
    private static final int NONE = -1;
    private static final long ALWAYS = -1L;
    private static final long NEVER = 0L;

    private final char[] text;
    private int length;
    private final Assertion assertion;
    private final Reader reader;
    private final Asking asking;
    private final Conditions conditions;
    private final Monitor monitor;
    private final Circuit circuit;
    private final Run run;
    private final StringBuilder written;
    private boolean compiled;
    private int obligations;
    private int conditionsMet;

    public TraceWarden() {
        text = new char[MAX_TEXT];
        length = 0;
        assertion = new Assertion();
        reader = new Reader(text, assertion);
        asking = new Asking(assertion);
        conditions = new Conditions(asking);
        monitor = new Monitor(conditions);
        circuit = new Circuit(monitor);
        run = new Run(monitor);
        written = new StringBuilder();
        compiled = false;
        obligations = 0;
        conditionsMet = 0;
    }

    public int text(long s) {
        int more = charactersIn(s);
        if (more < 1 || length + more > MAX_TEXT) {
            return -1;
        }
        for (int i = 0; i < more; i++) {
            text[length + i] = (char) byteOf(s, i);
        }
        length += more;
        return length;
    }

    public void wipe() {
        length = 0;
    }

    public int compile() throws IllegalArgumentException, UnsupportedOperationException {
        reader.readAll(length);
        if (!assertion.fits) {
            throw new UnsupportedOperationException("too many obligations");
        }
        asking.fill();
        if (!conditions.explore(assertion.wholeObligation())) {
            throw new UnsupportedOperationException("too many conditions");
        }
        // Nothing that answers other calls may change before this line: what throws leaves it all.
        obligations = assertion.obligations;
        conditionsMet = conditions.count;
        monitor.build();
        circuit.renew();
        run.end();
        compiled = true;
        return monitor.states;
    }

    public int fault() {
        return reader.faultAt;
    }

    public int size(int what) throws IllegalStateException, IllegalArgumentException {
        requireCompiled();
        switch (what) {
            case 0:
                return monitor.states;
            case 1:
                return obligations;
            case 2:
                return conditionsMet;
            case 3:
                return circuit.bits;
            case 4:
                return circuit.gates();
            default:
                throw new IllegalArgumentException("no such size");
        }
    }

    public int next(int state, int letter) throws IllegalStateException, NoSuchElementException {
        requireCompiled();
        if (state < 0 || state >= monitor.states || !isLetter(letter)) {
            throw new NoSuchElementException("no such state or letter");
        }
        return monitor.after(state, letter);
    }

    public boolean output(int output, int code, int letter) throws IllegalStateException, IndexOutOfBoundsException {
        requireCompiled();
        if (output < 0 || output > circuit.bits || code < 0 || code >= circuit.codes() || !isLetter(letter)) {
            throw new IndexOutOfBoundsException("no such output, code or letter");
        }
        return circuit.isOn(output, code, letter);
    }

    public boolean begin() throws IllegalStateException {
        requireCompiled();
        run.start();
        return !run.hasFailed();
    }

    public int step(int letter) throws IllegalStateException, IllegalArgumentException {
        if (!run.canGoOn()) {
            throw new IllegalStateException("no run that can go on");
        }
        if (!isLetter(letter)) {
            throw new IllegalArgumentException("no such letter");
        }
        run.take(letter);
        return run.state;
    }

    public int time() {
        return run.exists ? run.cycles : -1;
    }

    public int window() {
        return run.hasFailed() ? run.shortestFailingEnd() : -1;
    }

    public boolean loop(int from) throws IllegalStateException, IndexOutOfBoundsException {
        if (!run.exists) {
            throw new IllegalStateException("no run");
        }
        if (from < 0 || from >= run.cycles) {
            throw new IndexOutOfBoundsException("no such cycle");
        }
        return run.holdsRepeating(from);
    }

    public int report() {
        written.setLength(0);
        if (!compiled) {
            written.append("none");
        } else if (!run.exists) {
            write("ready ", monitor.states);
        } else if (run.hasFailed()) {
            write("failed ", run.cycles);
            write(" by ", run.shortestFailingEnd());
        } else {
            write("run ", run.cycles);
            write(" in ", run.state);
        }
        return written.length();
    }

    public char said(int i) {
        return i >= 0 && i < written.length() ? written.charAt(i) : (char) 0;
    }

    private void write(String words, int number) {
        written.append(words);
        written.append(number);
    }

    private void requireCompiled() {
        if (!compiled) {
            throw new IllegalStateException("nothing was compiled");
        }
    }

    private static boolean isLetter(int letter) {
        return letter >= 0 && letter < LETTERS;
    }

    private static int byteOf(long s, int i) {
        return (int) (s >>> (8 * i)) & 255;
    }

    /** How many characters s brings; -1 if one of them can't stand in a text. */
    private static int charactersIn(long s) {
        for (int i = 0; i < 8; i++) {
            int c = byteOf(s, i);
            if (c == 0) {
                return i;
            }
            if (c < 33 || c > 126) {
                return -1;
            }
        }
        return 8;
    }

    private static boolean has(int set, int element) {
        return (set >> element & 1) != 0;
    }

    /** A property of the text. Its kind is the character that tells it: G X & | W > : or BOOLEAN. */
    private static final class Node {
        private static final char BOOLEAN = '!';

        private char kind;
        private int left;
        private int right;
        /** Its number among the obligations, NONE if it is not one. */
        private int obligation;
        /** Of a boolean: the letters that it is true of, as a set. */
        private int letters;
        /** Of > and : the places of the sequence, and the sets of first and of last ones. */
        private int placesFrom;
        private int placesTo;
        private int firstPlaces;
        private int lastPlaces;
    }

    /** The properties that a text is made of, a part always before the whole, and its obligations. */
    private static final class Assertion {
        private final Node[] nodes;
        private int count;
        private int obligations;
        /** Whether there were numbers enough for all obligations; nothing below is of use otherwise. */
        private boolean fits;
        /** By obligation, for those that are places: the letters its boolean is true of, the places that follow. */
        private final int[] placeLetters;
        private final int[] followers;

        private Assertion() {
            nodes = new Node[MAX_TEXT];
            for (int i = 0; i < MAX_TEXT; i++) {
                nodes[i] = new Node();
            }
            placeLetters = new int[MAX_OBLIGATIONS];
            followers = new int[MAX_OBLIGATIONS];
            count = 0;
            obligations = 0;
            fits = true;
        }

        private void clear() {
            count = 0;
            obligations = 0;
            fits = true;
        }

        /** Each property has a character of the text to itself, so there is room for all of them. */
        private int add(char kind, int left, int right) {
            if (count >= MAX_TEXT) {
                fits = false;
                return 0;
            }
            Node node = nodes[count];
            node.kind = kind;
            node.left = left;
            node.right = right;
            node.obligation = NONE;
            count++;
            return count - 1;
        }

        private int addBoolean(int letters) {
            int node = add(Node.BOOLEAN, NONE, NONE);
            nodes[node].letters = letters;
            return node;
        }

        /** Makes a property an obligation; one that is so already stays the one it is. */
        private void oblige(int node) {
            if (nodes[node].obligation == NONE) {
                nodes[node].obligation = newObligation();
            }
        }

        private int newObligation() {
            if (obligations >= MAX_OBLIGATIONS) {
                fits = false;
                return NONE;
            }
            obligations++;
            return obligations - 1;
        }

        /** The set of the new place alone. */
        private int addPlace(int letters) {
            int place = newObligation();
            if (place == NONE) {
                return 0;
            }
            placeLetters[place] = letters;
            followers[place] = 0;
            return 1 << place;
        }

        private void link(int before, int behind) {
            for (int place = 0; place < obligations; place++) {
                if (has(before, place)) {
                    followers[place] |= behind;
                }
            }
        }

        /** Writes the places behind a number down again, until they stand there so many times. */
        private void copyPlaces(int from, int times) {
            int width = obligations - from;
            if (from + width * times > MAX_OBLIGATIONS) {
                fits = false;
            }
            if (!fits) {
                return;
            }
            for (int copy = 1; copy < times; copy++) {
                int shift = copy * width;
                for (int place = from; place < from + width; place++) {
                    placeLetters[place + shift] = placeLetters[place];
                    followers[place + shift] = followers[place] << shift;
                }
            }
            obligations = from + width * times;
        }

        /** The whole property is the last one that is added. */
        private int wholeObligation() {
            return count > 0 ? nodes[count - 1].obligation : NONE;
        }
    }

    /** Reads a text, character by character; each method reads one thing of the grammar. */
    private static final class Reader {
        private static final String ATOMS = "abc01";
        /** Of each atom: the letters that it is true of, as a set. */
        private static final int[] ATOM_LETTERS = {0xAA, 0xCC, 0xF0, 0, 0xFF};
        private static final int ALL_LETTERS = 0xFF;

        private final char[] text;
        private final Assertion assertion;
        private int length;
        private int at;
        private int faultAt;
        /** The sets of first and of last places of the piece of a sequence that was read last. */
        private int first;
        private int last;

        private Reader(char[] text, Assertion assertion) {
            this.text = text;
            this.assertion = assertion;
            length = 0;
            at = 0;
            faultAt = -1;
        }

        private void readAll(int textLength) {
            length = textLength;
            at = 0;
            assertion.clear();
            int whole = readProperty(0);
            require(at == length);
            assertion.oblige(whole);
        }

        private void require(boolean goesOn) {
            if (!goesOn) {
                faultAt = at;
                throw new IllegalArgumentException("no property goes on so");
            }
        }

        /** The character to be read, 0 behind the text. */
        private char peek() {
            return at < length ? text[at] : (char) 0;
        }

        private void pass(char c) {
            require(peek() == c);
            at++;
        }

        private int readProperty(int depth) {
            require(depth <= MAX_DEPTH);
            switch (peek()) {
                case 'G':
                    return readAlways(depth);
                case 'X':
                    return readBehind(depth);
                case '{':
                    return readRule(depth);
                case '(':
                    return readPair(depth);
                default:
                    return assertion.addBoolean(readBoolean(depth));
            }
        }

        private int readAlways(int depth) {
            pass('G');
            int part = readProperty(depth + 1);
            int node = assertion.add('G', part, NONE);
            assertion.oblige(node);
            return node;
        }

        private int readBehind(int depth) {
            pass('X');
            int part = readProperty(depth + 1);
            assertion.oblige(part);
            return assertion.add('X', part, NONE);
        }

        private int readPair(int depth) {
            pass('(');
            int left = readProperty(depth + 1);
            char kind = peek();
            require(kind == '&' || kind == '|' || kind == 'W');
            at++;
            int right = readProperty(depth + 1);
            pass(')');
            int node = assertion.add(kind, left, right);
            if (kind == 'W') {
                assertion.oblige(node);
            }
            return node;
        }

        private int readRule(int depth) {
            pass('{');
            int placesFrom = assertion.obligations;
            readSequence(depth + 1);
            int placesTo = assertion.obligations;
            int firstPlaces = first;
            int lastPlaces = last;
            pass('}');
            char kind = peek();
            require(kind == '>' || kind == ':');
            at++;
            int part = readProperty(depth + 1);
            if (kind == ':') {
                assertion.oblige(part);
            }
            int node = assertion.add(kind, part, NONE);
            Node rule = assertion.nodes[node];
            rule.placesFrom = placesFrom;
            rule.placesTo = placesTo;
            rule.firstPlaces = firstPlaces;
            rule.lastPlaces = lastPlaces;
            return node;
        }

        private void readSequence(int depth) {
            require(depth <= MAX_DEPTH);
            readTerm(depth);
            int firstOfAll = first;
            for (int i = 0; i < length && peek() == ','; i++) {
                pass(',');
                int before = last;
                readTerm(depth);
                assertion.link(before, first);
            }
            first = firstOfAll;
        }

        private void readTerm(int depth) {
            int placesFrom = assertion.obligations;
            readUnit(depth);
            if (peek() == '+') {
                pass('+');
                assertion.link(last, first);
            } else if (peek() == '*') {
                pass('*');
                int least = readDigit(1);
                int most = least;
                if (peek() == '-') {
                    pass('-');
                    most = readDigit(least);
                }
                repeat(placesFrom, least, most);
            }
        }

        private void readUnit(int depth) {
            if (peek() != '[') {
                first = assertion.addPlace(readBoolean(depth + 1));
                last = first;
                return;
            }
            pass('[');
            readSequence(depth + 1);
            int firstOfAny = first;
            int lastOfAny = last;
            for (int i = 0; i < length && peek() == '/'; i++) {
                pass('/');
                readSequence(depth + 1);
                firstOfAny |= first;
                lastOfAny |= last;
            }
            pass(']');
            first = firstOfAny;
            last = lastOfAny;
        }

        private int readDigit(int least) {
            int digit = peek() - '0';
            require(digit >= least && digit <= 9);
            at++;
            return digit;
        }

        /** Makes the piece read last, the places behind a number, stand there several times. */
        private void repeat(int placesFrom, int least, int most) {
            int width = assertion.obligations - placesFrom;
            // All copies are made before any two are linked: a copy must not bring a link along.
            assertion.copyPlaces(placesFrom, most);
            if (!assertion.fits) {
                return;
            }
            int lastOfAny = least == 1 ? last : 0;
            for (int copy = 1; copy < most; copy++) {
                assertion.link(last << width * (copy - 1), first << width * copy);
                if (copy + 1 >= least) {
                    lastOfAny |= last << width * copy;
                }
            }
            last = lastOfAny;
        }

        /** The set of letters that the boolean is true of. */
        private int readBoolean(int depth) {
            require(depth <= MAX_DEPTH);
            char c = peek();
            if (c == '!') {
                pass('!');
                return ALL_LETTERS & ~readBoolean(depth + 1);
            }
            if (c == '(') {
                return readBooleanPair(depth);
            }
            int atom = ATOMS.indexOf(c);
            require(atom >= 0 && atom < ATOM_LETTERS.length);
            at++;
            return ATOM_LETTERS[atom];
        }

        private int readBooleanPair(int depth) {
            pass('(');
            int left = readBoolean(depth + 1);
            char kind = peek();
            require(kind == '&' || kind == '|');
            at++;
            int right = readBoolean(depth + 1);
            pass(')');
            return kind == '&' ? left & right : left | right;
        }
    }

    /**
     * What each obligation asks by each letter, as tables: the bit of a set of obligations tells whether it is enough.
     * A table's longs (words) are worked out one by one, since no set's bit depends on another set's.
     */
    private static final class Asking {
        /** The sets with a certain one of the first six obligations, within a word. */
        private static final long[] WITH = {
            0xAAAAAAAAAAAAAAAAL, 0xCCCCCCCCCCCCCCCCL, 0xF0F0F0F0F0F0F0F0L,
            0xFF00FF00FF00FF00L, 0xFFFF0000FFFF0000L, 0xFFFFFFFF00000000L};

        private final Assertion assertion;
        private final long[] tables;
        /** What each property asks by the letter, in the word, that are being worked out. */
        private final long[] ofNode;
        private int obligations;
        private int words;

        private Asking(Assertion assertion) {
            this.assertion = assertion;
            tables = new long[LETTERS * MAX_OBLIGATIONS * MAX_WORDS];
            ofNode = new long[MAX_TEXT];
            obligations = 0;
            words = 0;
        }

        private void fill() {
            obligations = assertion.obligations;
            words = obligations <= OBLIGATIONS_IN_WORD ? 1 : 1 << (obligations - OBLIGATIONS_IN_WORD);
            for (int letter = 0; letter < LETTERS; letter++) {
                for (int word = 0; word < words; word++) {
                    fillWord(letter, word);
                }
            }
        }

        private void fillWord(int letter, int word) {
            for (int i = 0; i < assertion.count; i++) {
                Node node = assertion.nodes[i];
                ofNode[i] = askedByNode(node, letter, word);
                if (node.obligation != NONE) {
                    tables[row(letter, node.obligation) + word] = ofNode[i];
                }
            }
        }

        private static int row(int letter, int obligation) {
            return (letter * MAX_OBLIGATIONS + obligation) * MAX_WORDS;
        }

        /** The sets with the obligation. */
        private static long with(int obligation, int word) {
            if (obligation < 0) {
                return NEVER;
            }
            if (obligation < OBLIGATIONS_IN_WORD) {
                return WITH[obligation];
            }
            return (word >> (obligation - OBLIGATIONS_IN_WORD) & 1) != 0 ? ALWAYS : NEVER;
        }

        private long askedByNode(Node node, int letter, int word) {
            switch (node.kind) {
                case 'X':
                    return with(assertion.nodes[node.left].obligation, word);
                case 'G':
                    return ofNode[node.left] & with(node.obligation, word);
                case '&':
                    return ofNode[node.left] & ofNode[node.right];
                case '|':
                    return ofNode[node.left] | ofNode[node.right];
                case 'W':
                    return ofNode[node.right] | ofNode[node.left] & with(node.obligation, word);
                case '>':
                    return askedByRule(node, ofNode[node.left], letter, word);
                case ':':
                    return askedByRule(node, with(assertion.nodes[node.left].obligation, word), letter, word);
                default:
                    return has(node.letters, letter) ? ALWAYS : NEVER;
            }
        }

        /** Notes what the places of a rule ask, too; atEnd is what its last ones ask beside those that follow. */
        private long askedByRule(Node rule, long atEnd, int letter, int word) {
            long all = ALWAYS;
            for (int place = rule.placesFrom; place < rule.placesTo; place++) {
                long asked = ALWAYS;
                if (has(assertion.placeLetters[place], letter)) {
                    asked = withAll(assertion.followers[place], word);
                    asked &= has(rule.lastPlaces, place) ? atEnd : ALWAYS;
                }
                tables[row(letter, place) + word] = asked;
                all &= has(rule.firstPlaces, place) ? asked : ALWAYS;
            }
            return all;
        }

        private long withAll(int set, int word) {
            long all = ALWAYS;
            for (int obligation = 0; obligation < obligations; obligation++) {
                if (has(set, obligation)) {
                    all &= with(obligation, word);
                }
            }
            return all;
        }

        /** The sets that are enough for all that a set of obligations asks by a letter. */
        private long askedByAll(int set, int letter, int word) {
            long all = ALWAYS;
            for (int obligation = 0; obligation < obligations && all != NEVER; obligation++) {
                if (has(set, obligation)) {
                    all &= tables[row(letter, obligation) + word];
                }
            }
            return all;
        }
    }

    /** The conditions that come of the first one, as tables like those of Asking, and where letters lead. */
    private static final class Conditions {
        private final Asking asking;
        /** One row more than there may be conditions: for one that may turn out to be known. */
        private final long[] tables;
        private final int[] leads;
        /** The sets that are enough for the condition in hand while no part of them is. */
        private final int[] leastSets;
        private int leastCount;
        private int words;
        private int count;

        private Conditions(Asking asking) {
            this.asking = asking;
            tables = new long[(MAX_CONDITIONS + 1) * MAX_WORDS];
            leads = new int[MAX_CONDITIONS * LETTERS];
            leastSets = new int[1 << MAX_OBLIGATIONS];
            leastCount = 0;
            words = 0;
            count = 0;
        }

        /** Whether there were not too many. */
        private boolean explore(int whole) {
            words = asking.words;
            count = 1;
            for (int word = 0; word < words; word++) {
                tables[word] = Asking.with(whole, word);
            }
            for (int from = 0; from < count && from < MAX_CONDITIONS; from++) {
                findLeastSets(from);
                for (int letter = 0; letter < LETTERS; letter++) {
                    putIn(letter);
                    int to = find();
                    if (to >= MAX_CONDITIONS) {
                        return false;
                    }
                    leads[from * LETTERS + letter] = to;
                    count = Math.max(count, to + 1);
                }
            }
            return true;
        }

        private int lead(int from, int letter) {
            return leads[from * LETTERS + letter];
        }

        private void findLeastSets(int condition) {
            leastCount = 0;
            for (int word = 0; word < words; word++) {
                long least = leastIn(condition * MAX_WORDS, word);
                for (int i = 0; i < 64 && least >>> i != 0; i++) {
                    if ((least >>> i & 1) != 0) {
                        leastSets[leastCount] = word << OBLIGATIONS_IN_WORD | i;
                        leastCount++;
                    }
                }
            }
        }

        /** The sets of a word that are enough, without those that still are when one obligation is taken away. */
        private long leastIn(int row, int word) {
            long enough = tables[row + word];
            long more = 0;
            for (int i = 0; i < OBLIGATIONS_IN_WORD; i++) {
                more |= (enough & ~Asking.WITH[i]) << (1 << i);
            }
            for (int bit = 1; bit < words; bit <<= 1) {
                if ((word & bit) != 0) {
                    more |= tables[row + word - bit];
                }
            }
            return enough & ~more;
        }

        /** Writes into the row behind the known ones what becomes of the condition in hand by a letter. */
        private void putIn(int letter) {
            int row = count * MAX_WORDS;
            for (int word = 0; word < words; word++) {
                long enough = NEVER;
                for (int i = 0; i < leastCount && enough != ALWAYS; i++) {
                    enough |= asking.askedByAll(leastSets[i], letter, word);
                }
                tables[row + word] = enough;
            }
        }

        /** The condition that says the same as the row behind the known ones; that row's number if it is new. */
        private int find() {
            for (int known = 0; known < count; known++) {
                if (isSame(known, count)) {
                    return known;
                }
            }
            return count;
        }

        private boolean isSame(int one, int other) {
            for (int word = 0; word < words; word++) {
                if (tables[one * MAX_WORDS + word] != tables[other * MAX_WORDS + word]) {
                    return false;
                }
            }
            return true;
        }

        private boolean isNever(int condition) {
            for (int word = 0; word < words; word++) {
                if (tables[condition * MAX_WORDS + word] != NEVER) {
                    return false;
                }
            }
            return true;
        }
    }

    /** The least machine: states 0 .. states - 1, and FAILED, which no letter leads out of. */
    private static final class Monitor {
        private static final int FAILED = -1;

        private final Conditions conditions;
        private int states;
        private final int[] table;
        private final boolean[] failing;
        /** Conditions that nothing tells apart so far have the same group: the number of the first of them. */
        private final int[] group;
        private final int[] finerGroup;
        private final int[] stateOfGroup;
        private final int[] groupOfState;

        private Monitor(Conditions conditions) {
            this.conditions = conditions;
            states = 0;
            table = new int[MAX_CONDITIONS * LETTERS];
            failing = new boolean[MAX_CONDITIONS];
            group = new int[MAX_CONDITIONS];
            finerGroup = new int[MAX_CONDITIONS];
            stateOfGroup = new int[MAX_CONDITIONS];
            groupOfState = new int[MAX_CONDITIONS];
        }

        private int firstState() {
            return states > 0 ? 0 : FAILED;
        }

        private int after(int state, int letter) {
            return state < 0 || state >= states ? FAILED : table[state * LETTERS + letter];
        }

        private void build() {
            markFailing();
            groupConditions();
            numberStates();
        }

        private void markFailing() {
            for (int i = 0; i < conditions.count; i++) {
                failing[i] = conditions.isNever(i);
            }
            boolean more = true;
            for (int round = 0; round < MAX_CONDITIONS && more; round++) {
                more = false;
                for (int i = 0; i < conditions.count; i++) {
                    if (!failing[i] && leadsToFailingOnly(i)) {
                        failing[i] = true;
                        more = true;
                    }
                }
            }
        }

        private boolean leadsToFailingOnly(int condition) {
            for (int letter = 0; letter < LETTERS; letter++) {
                if (!failing[conditions.lead(condition, letter)]) {
                    return false;
                }
            }
            return true;
        }

        private void groupConditions() {
            for (int i = 0; i < conditions.count; i++) {
                group[i] = failing[i] ? 1 : 0;
            }
            int groups = 0;
            boolean more = true;
            for (int round = 0; round <= MAX_CONDITIONS && more; round++) {
                int before = groups;
                groups = refineGroups();
                more = groups > before;
            }
        }

        /** Splits the groups by where a letter leads; how many there are then. */
        private int refineGroups() {
            int groups = 0;
            for (int i = 0; i < conditions.count; i++) {
                finerGroup[i] = firstLike(i);
                if (finerGroup[i] == i) {
                    groups++;
                }
            }
            System.arraycopy(finerGroup, 0, group, 0, conditions.count);
            return groups;
        }

        private int firstLike(int condition) {
            for (int other = 0; other < condition; other++) {
                if (finerGroup[other] == other && isLike(other, condition)) {
                    return other;
                }
            }
            return condition;
        }

        private boolean isLike(int one, int other) {
            if (group[one] != group[other]) {
                return false;
            }
            for (int letter = 0; letter < LETTERS; letter++) {
                if (group[conditions.lead(one, letter)] != group[conditions.lead(other, letter)]) {
                    return false;
                }
            }
            return true;
        }

        private void numberStates() {
            states = 0;
            for (int i = 0; i < conditions.count; i++) {
                stateOfGroup[i] = NONE;
            }
            stateOf(0);
            for (int state = 0; state < states && state < MAX_CONDITIONS; state++) {
                for (int letter = 0; letter < LETTERS; letter++) {
                    table[state * LETTERS + letter] = stateOf(conditions.lead(groupOfState[state], letter));
                }
            }
        }

        /** The state that a condition belongs to, with a new number if it is met for the first time. */
        private int stateOf(int condition) {
            if (failing[condition]) {
                return FAILED;
            }
            int its = group[condition];
            if (stateOfGroup[its] == NONE && states < MAX_CONDITIONS) {
                stateOfGroup[its] = states;
                groupOfState[states] = its;
                states++;
            }
            return stateOfGroup[its];
        }
    }

    /** The monitor as functions of the letter and of a code's bits. */
    private static final class Circuit {
        private static final int NOT_COUNTED = -1;
        private static final int MAX_CELLS = (MAX_BITS + 1) << (SIGNALS + MAX_BITS);
        /** More than there can be functions, so that two of their numbers go into one. */
        private static final int PAIR_BASE = 2 * MAX_CELLS;

        private final Monitor monitor;
        private int bits;
        private int gateCount;
        /** The numbers of the functions that come of the outputs by fixing inputs: 0, 1 the constants, then gates. */
        private final int[] cells;
        /** By gate, of those that look at the input in hand: the functions it chooses from, as one number. */
        private final int[] pairs;
        private int pairCount;

        private Circuit(Monitor monitor) {
            this.monitor = monitor;
            bits = 1;
            gateCount = NOT_COUNTED;
            cells = new int[MAX_CELLS];
            pairs = new int[MAX_CELLS / 2];
            pairCount = 0;
        }

        private void renew() {
            bits = 1;
            for (int n = 2; n <= MAX_BITS; n++) {
                if (1 << (n - 1) <= monitor.states) {
                    bits = n;
                }
            }
            gateCount = NOT_COUNTED;
        }

        private int codes() {
            return 1 << bits;
        }

        private boolean isOn(int line, int code, int letter) {
            int state = monitor.after(code, letter);
            boolean alarm = state == Monitor.FAILED;
            int codeThen = alarm ? monitor.states : state;
            return line == bits ? alarm : has(codeThen, line);
        }

        /** Counted only when asked for: it is the dearest thing to know of a monitor. */
        private int gates() {
            if (gateCount == NOT_COUNTED) {
                gateCount = countGates();
            }
            return gateCount;
        }

        /** From the last input to the first: two functions that an input chooses from are joined to one. */
        private int countGates() {
            int inputs = SIGNALS + bits;
            int used = fillCells();
            int gates = 0;
            for (int input = 0; input < inputs; input++) {
                pairCount = 0;
                used /= 2;
                for (int i = 0; i < used; i++) {
                    cells[i] = join(cells[2 * i], cells[2 * i + 1], gates + 2);
                }
                gates += pairCount;
            }
            return gates;
        }

        /** The outputs' tables, one behind the other, each in the order of the inputs; how many cells they take. */
        private int fillCells() {
            int used = 0;
            for (int line = 0; line <= bits; line++) {
                for (int i = 0; i < LETTERS; i++) {
                    // The first input is a, the letter's lowest bit.
                    int letter = (i & 1) << 2 | i & 2 | i >> 2;
                    for (int code = 0; code < codes(); code++) {
                        cells[used] = isOn(line, code, letter) ? 1 : 0;
                        used++;
                    }
                }
            }
            return used;
        }

        /** The number of the function that is one if the input in hand is 0 and the other one if it is 1. */
        private int join(int ifNot, int ifSo, int firstNumber) {
            if (ifNot == ifSo) {
                return ifNot;
            }
            int pair = ifNot * PAIR_BASE + ifSo;
            for (int i = 0; i < pairCount; i++) {
                if (pairs[i] == pair) {
                    return firstNumber + i;
                }
            }
            pairs[pairCount] = pair;
            pairCount++;
            return firstNumber + pairCount - 1;
        }
    }

    /** The monitor at work on a trace. */
    private static final class Run {
        private final Monitor monitor;
        private final int[] trace;
        private boolean exists;
        private int cycles;
        private int state;

        private Run(Monitor monitor) {
            this.monitor = monitor;
            trace = new int[MAX_CYCLES];
            exists = false;
            cycles = 0;
            state = 0;
        }

        private void start() {
            exists = true;
            cycles = 0;
            state = monitor.firstState();
        }

        private void end() {
            exists = false;
        }

        private boolean hasFailed() {
            return exists && state == Monitor.FAILED;
        }

        private boolean canGoOn() {
            return exists && state != Monitor.FAILED && cycles < MAX_CYCLES;
        }

        private void take(int letter) {
            if (cycles >= MAX_CYCLES) {
                return;
            }
            trace[cycles] = letter;
            cycles++;
            state = monitor.after(state, letter);
        }

        /** Where the cycles from one on lead. */
        private int walk(int begun, int from) {
            int reached = begun;
            for (int cycle = from; cycle < cycles; cycle++) {
                reached = monitor.after(reached, trace[cycle]);
            }
            return reached;
        }

        /** A piece that has failed before its last letter fails, too: no letter leads out of FAILED. */
        private int shortestFailingEnd() {
            for (int piece = 0; piece < cycles; piece++) {
                if (walk(monitor.firstState(), cycles - piece) == Monitor.FAILED) {
                    return piece;
                }
            }
            return cycles;
        }

        /** After as many rounds as there are states, one of these has come again: no later round can fail. */
        private boolean holdsRepeating(int from) {
            int reached = state;
            for (int round = 0; round < monitor.states && reached != Monitor.FAILED; round++) {
                reached = walk(reached, from);
            }
            return reached != Monitor.FAILED;
        }
    }
}
