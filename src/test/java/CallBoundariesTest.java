import java.util.concurrent.Callable;

/** The calls: each sentence of the promises that names a boundary case, with a test of its own. */
public final class CallBoundariesTest {
    private static final String STATE = "throws.IllegalStateException";
    private static final String ARGUMENT = "throws.IllegalArgumentException";
    private static final String INDEX = "throws.IndexOutOfBoundsException";
    private static final String ELEMENT = "throws.NoSuchElementException";
    private static final String UNSUPPORTED = "throws.UnsupportedOperationException";
    private static final int LEAST = Integer.MIN_VALUE;
    private static final int MOST = Integer.MAX_VALUE;
    /** How many kinds of calls that are refused. */
    private static final int KINDS = 16;
    /** 39 states, as many as there can be. */
    private static final String GREATEST = "G{a+,c*3,a,1}:c";

    private CallBoundariesTest() {
    }

    public static void main(String[] args) {
        Sentences sentences = new Sentences();
        sentences.of("What it is");
        sentences.test("An object is used for at most 512 calls after it has been made; what later calls answer is "
            + "free.", CallBoundariesTest::lastCall);
        sentences.of("Terms");
        sentences.test("Of several exceptions that apply the first one listed is thrown;",
            CallBoundariesTest::firstException);
        sentences.test("what throws or is refused changes nothing but as said.", CallBoundariesTest::nothingChanges);
        texts(sentences);
        compiling(sentences);
        tables(sentences);
        runs(sentences);
        reports(sentences);
        Checks.finish();
    }

    private static void texts(Sentences sentences) {
        sentences.of("Promise 1:");
        sentences.test("An empty text; nothing is compiled; no run.", CallBoundariesTest::newObject);
        sentences.of("Promise 2:");
        sentences.test("Puts up to eight characters behind the text: the bytes of s, the lowest first, up to the first "
            + "zero byte: how long it is.", CallBoundariesTest::bytes);
        sentences.test("-1, refused, if the lowest byte is 0,", CallBoundariesTest::noByte);
        sentences.test("one of them is not 33 .. 126,", CallBoundariesTest::wrongBytes);
        sentences.test("or it would be longer than 40.", CallBoundariesTest::tooLong);
        sentences.of("Promise 3:");
        sentences.test("Empties the text.", CallBoundariesTest::wiped);
    }

    private static void compiling(Sentences sentences) {
        sentences.of("Promise 4:");
        sentences.test("Compiles the text (which stays): how many states;", CallBoundariesTest::textStays);
        sentences.test("there is no run then.", CallBoundariesTest::noRunThen);
        sentences.test("IllegalArgumentException: it is no property;", CallBoundariesTest::noProperty);
        sentences.test("UnsupportedOperationException: more than 9 obligations, or more than 40 conditions.",
            CallBoundariesTest::tooMany);
        sentences.test("(Then what was compiled before stays, and the run.)", CallBoundariesTest::allStays);
        sentences.of("Promise 5:");
        sentences.test("The place of the first character of the text with which no property goes on so",
            CallBoundariesTest::faultPlaces);
        sentences.test("(how many there are, if something is missing behind them)",
            CallBoundariesTest::somethingMissing);
        sentences.test("when compile() threw IllegalArgumentException last", CallBoundariesTest::lastFault);
        sentences.test("(what would be too deep is told at its own first character, or where that is missing, not "
            + "before)", CallBoundariesTest::faultsTooDeep);
        sentences.test("-1 if it never did.", CallBoundariesTest::noFault);
    }

    private static void tables(Sentences sentences) {
        sentences.of("Promise 6:");
        sentences.test("Of what was compiled: how many states (what = 0), obligations (1), conditions (2), bits (3), "
            + "gates (4).", CallBoundariesTest::sizes);
        sentences.test("IllegalStateException: nothing was; IllegalArgumentException: another what.",
            CallBoundariesTest::noSize);
        sentences.of("Promise 7:");
        sentences.test("The state to which a state goes by a letter; -1 if it fails.", CallBoundariesTest::nextStates);
        sentences.test("IllegalStateException: nothing was compiled; NoSuchElementException: there is no such state or "
            + "letter.", CallBoundariesTest::noNext);
        sentences.of("Promise 8:");
        sentences.test("An output of the circuit for a code (0 up to 2 to the BITS, less 1) and a letter.",
            CallBoundariesTest::outputs);
        sentences.test("IllegalStateException: nothing was compiled; IndexOutOfBoundsException: there is no such "
            + "output, code or letter.", CallBoundariesTest::noOutput);
    }

    private static void runs(Sentences sentences) {
        sentences.of("Promise 9:");
        sentences.test("A run begins, before cycle 0, in state 0: true;", CallBoundariesTest::begins);
        sentences.test("false if it has failed at once.", CallBoundariesTest::failedAtOnce);
        sentences.test("IllegalStateException: nothing was compiled.", CallBoundariesTest::nothingToBegin);
        sentences.of("Promise 10:");
        sentences.test("A cycle with a letter: the state then, -1 if the run fails.", CallBoundariesTest::steps);
        sentences.test("IllegalStateException: there is no run, it has failed, or had 60 cycles;",
            CallBoundariesTest::noStep);
        sentences.test("IllegalArgumentException: there is no such letter.", CallBoundariesTest::noLetter);
        sentences.of("Promise 11:");
        sentences.test("How many cycles the run had; -1 if there is none.", CallBoundariesTest::times);
        sentences.of("Promise 12:");
        sentences.test("When the run has failed: how many cycles the shortest piece at the end of its trace has that "
            + "fails, if a run begins with it.", CallBoundariesTest::windows);
        sentences.test("Else -1.", CallBoundariesTest::noWindow);
        sentences.of("Promise 13:");
        sentences.test("Whether the property holds from cycle 0 on if the cycles of the run from one on come again and "
            + "again for ever.", CallBoundariesTest::loops);
        sentences.test("IllegalStateException: there is no run; IndexOutOfBoundsException: from is not a cycle that "
            + "the run had.", CallBoundariesTest::noLoop);
    }

    private static void reports(Sentences sentences) {
        sentences.of("Promise 14:");
        sentences.test("\"none\" if nothing is compiled;", CallBoundariesTest::reportNone);
        sentences.test("\"ready \" and how many states, without a run;", CallBoundariesTest::reportReady);
        sentences.test("\"run \" and how many cycles, \" in \" and the state;", CallBoundariesTest::reportRun);
        sentences.test("\"failed \" and how many cycles, \" by \" and window(): how many characters.",
            CallBoundariesTest::reportFailed);
        sentences.of("Promise 15:");
        sentences.test("Character i of what report() wrote last; 0 if there is none.", CallBoundariesTest::characters);
    }

    // ---- what the tests of several sentences share ----

    /** A run of so many cycles with one letter. */
    private static TraceWarden ran(String text, int cycles, int letter) {
        TraceWarden warden = Checks.begun(text);
        for (int i = 0; i < cycles; i++) {
            warden.step(letter);
        }
        return warden;
    }

    /** All ways in which things can stand, with a report of each written before; each time new objects. */
    private static TraceWarden[] allWays() {
        TraceWarden compiledAgain = ran("G(!a|Xb)", 3, 3);
        compiledAgain.compile();
        TraceWarden refusedOnly = Checks.with("(a");
        Checks.answer(refusedOnly::compile);
        TraceWarden[] ways = {new TraceWarden(), Checks.with("G(!a|Xb)"), refusedOnly,
            Checks.compiled("G(!a|Xb)"), compiledAgain, Checks.begun("G(!a|Xb)"), Checks.begun("G(!a|Xb)", 1, 2, 3),
            ran("G(!a|Xb)", 60, 3), Checks.begun("G(!a|Xb)", 1, 3, 0), Checks.begun("X0"), Checks.compiled("X0")};
        for (TraceWarden warden : ways) {
            warden.report();
        }
        return ways;
    }

    /** All that an object tells without being changed, but for its text; some 200 calls. */
    private static String seen(TraceWarden warden) {
        StringBuilder all = new StringBuilder();
        all.append(warden.fault()).append(' ').append(warden.time()).append(' ').append(warden.window());
        for (int what = 0; what < 5; what++) {
            int w = what;
            all.append(' ').append(Checks.answer(() -> warden.size(w)));
        }
        for (int letter = 0; letter < 8; letter++) {
            int l = letter;
            for (int code = 0; code < 4; code++) {
                int c = code;
                all.append(' ').append(Checks.answer(() -> warden.output(0, c, l)));
                all.append(' ').append(Checks.answer(() -> warden.output(1, c, l)));
                all.append(' ').append(Checks.answer(() -> warden.next(c, l)));
            }
        }
        for (int from = 0; from <= 60; from += 4) {
            int f = from;
            all.append(' ').append(Checks.answer(() -> warden.loop(f)));
        }
        for (int i = 0; i < 16; i++) {
            all.append(' ').append((int) warden.said(i));
        }
        return all.toString();
    }

    /** The run goes on as if nothing had been: what it tells of itself, and its next cycle. */
    private static String goesOn(TraceWarden warden) {
        return Checks.reported(warden) + " " + Checks.answer(() -> warden.step(1)) + " " + Checks.reported(warden);
    }

    // ---- what it is, and all calls ----

    private static void lastCall() {
        TraceWarden compiles = Checks.with(GREATEST); // 3 calls, with wipe()
        for (int call = 4; call <= 511; call++) {
            compiles.compile();
        }
        Checks.due("compile", 39, compiles::compile);
        TraceWarden gates = Checks.compiled(GREATEST); // 4 calls
        for (int call = 5; call <= 510; call++) {
            gates.compile();
        }
        Checks.due("compile before size", 39, gates::compile);
        Checks.due("size", 130, () -> gates.size(4));
        TraceWarden texts = new TraceWarden();
        for (int call = 1; call <= 510; call += 6) {
            for (int i = 0; i < 5; i++) {
                texts.text(Checks.pack("!!!!!!!!"));
            }
            texts.wipe();
        }
        Checks.due("the text before the last one", 8, () -> texts.text(Checks.pack("abcabcab")));
        Checks.due("text", 9, () -> texts.text('a'));
        TraceWarden refused = Checks.with("Gz"); // 2 calls
        for (int call = 3; call <= 511; call++) {
            Checks.answer(refused::compile);
        }
        Checks.due("fault", 1, refused::fault);
        TraceWarden runs = Checks.compiled("G(!a|Xb)"); // 3 calls
        for (int call = 4; call + 61 <= 511; call += 61) {
            runs.begin();
            for (int cycle = 0; cycle < 60; cycle++) {
                runs.step(3);
            }
        }
        for (int call = 492; call <= 511; call++) {
            runs.report();
        }
        Checks.due("said", '6', () -> runs.said(4));
        TraceWarden failed = Checks.begun("(Ga|Gb)", 1, 2); // 6 calls
        for (int call = 7; call <= 511; call++) {
            failed.window();
        }
        Checks.due("window", 2, failed::window);
    }

    private static void firstException() {
        TraceWarden none = new TraceWarden();
        Checks.due("size", STATE, () -> none.size(-1));
        Checks.due("next", STATE, () -> none.next(-1, 8));
        Checks.due("output", STATE, () -> none.output(-1, -1, -1));
        Checks.due("step", STATE, () -> none.step(8));
        Checks.due("loop", STATE, () -> none.loop(-1));
        TraceWarden ready = Checks.compiled("Ga");
        Checks.due("step without a run", STATE, () -> ready.step(-1));
        Checks.due("loop without a run", STATE, () -> ready.loop(0));
        Checks.due("step of a failed one", STATE, () -> Checks.begun("Ga", 0).step(8));
        Checks.due("step of a full one", STATE, () -> ran("Ga", 60, 1).step(-1));
        // Too many obligations, and then too many conditions, in a text that is no property either.
        for (String text : new String[] {"XXXXXXXXXa)", "{a*9}>0)", "{a*9}>", "{a*9", "(G{b,c*3-5}:a", "{a*9}>z",
            "GGGGGGGGGGGGGa", "GGGGGGGGGGGa)", "XXXXXXXXXXXa)", "{a*9}>Xb)", "{[a,b]*9}>c)", "{a*9}:Gb}",
            "(Ga&{b*9}:Gc", "{[[[[[[[[a*9]*9]*9]*9]*9]*9]*9]*9]*9}>"}) {
            Checks.due("compile " + text, ARGUMENT, () -> Checks.with(text).compile());
        }
    }

    private static void nothingChanges() {
        int ways = allWays().length;
        for (int kind = 0; kind < KINDS; kind++) {
            for (int way = 0; way < ways; way++) {
                refuse(kind, way);
            }
        }
        nothingIsPutIn();
    }

    /** Some call that is refused in all ways or in some. */
    private static Object refused(TraceWarden warden, int kind) {
        switch (kind) {
            case 0:
                return warden.text(0);
            case 1:
                return warden.text(0x2061);
            case 2:
                return warden.size(5);
            case 3:
                return warden.size(-1);
            case 4:
                return warden.next(0, 8);
            case 5:
                return warden.next(-1, 0);
            case 6:
                return warden.next(2, 0);
            case 7:
                return warden.output(3, 0, 0);
            case 8:
                return warden.output(0, 4, 0);
            case 9:
                return warden.output(0, 0, -1);
            case 10:
                return warden.step(8);
            case 11:
                return warden.step(-1);
            case 12:
                return warden.loop(60);
            case 13:
                return warden.loop(-1);
            case 14:
                return warden.loop(LEAST);
            default:
                return warden.step(MOST);
        }
    }

    private static void refuse(int kind, int way) {
        String what = "kind " + kind + ", way " + way;
        TraceWarden warden = allWays()[way];
        String before = seen(warden);
        String answer = Checks.answer(() -> refused(warden, kind));
        Checks.same(what + " is refused", true, answer.startsWith("throws.") || answer.equals("-1"));
        Checks.same(what + ", seen", before, seen(warden));
        Checks.same(what + ", goes on", goesOn(allWays()[way]), goesOn(warden));
    }

    private static void nothingIsPutIn() {
        for (long wrong : new long[] {0, ' ', 'z' | 32 << 8, 0x7F7A7A7A7A7A7A7AL, -1L}) {
            TraceWarden warden = Checks.with("X");
            Checks.due("text " + wrong, -1, () -> warden.text(wrong));
            Checks.due("behind what was there", 2, () -> warden.text('a'));
            Checks.due("and nothing between", 3, warden::compile);
        }
    }

    // ---- promises 1 to 3 ----

    private static void newObject() {
        Checks.due("text", 1, () -> new TraceWarden().text('a'));
        Checks.due("eight at once", 8, () -> new TraceWarden().text(Checks.pack("aaaaaaaa")));
        TraceWarden compiles = new TraceWarden();
        Checks.due("compile", ARGUMENT, compiles::compile);
        Checks.due("fault then", 0, compiles::fault);
        Checks.due("fault", -1, () -> new TraceWarden().fault());
        for (int what = 0; what < 5; what++) {
            int w = what;
            Checks.due("size " + what, STATE, () -> new TraceWarden().size(w));
        }
        Checks.due("next", STATE, () -> new TraceWarden().next(0, 0));
        Checks.due("output", STATE, () -> new TraceWarden().output(0, 0, 0));
        Checks.due("begin", STATE, () -> new TraceWarden().begin());
        Checks.due("step", STATE, () -> new TraceWarden().step(0));
        Checks.due("time", -1, () -> new TraceWarden().time());
        Checks.due("window", -1, () -> new TraceWarden().window());
        Checks.due("loop", STATE, () -> new TraceWarden().loop(0));
        Checks.due("report", "none", () -> Checks.reported(new TraceWarden()));
        Checks.due("said", 0, () -> (int) new TraceWarden().said(0));
        // What one object does is nothing to another one.
        TraceWarden other = ran("Ga", 60, 1);
        TraceWarden made = new TraceWarden();
        Checks.due("another one's run", -1, made::time);
        Checks.due("its run stays", 60, other::time);
        Checks.due("another one's text", 1, () -> made.text('b'));
        Checks.due("its text stays", 3, () -> other.text('b'));
    }

    private static void bytes() {
        for (int n = 1; n <= 8; n++) {
            String row = "!!!!!!!!".substring(0, n);
            Checks.due(n + " characters", n, () -> new TraceWarden().text(Checks.pack(row)));
        }
        for (int zero = 1; zero <= 7; zero++) {
            int at = zero;
            // Behind the zero byte stands what could not be put in.
            long s = Checks.pack("XXXXXXX".substring(0, zero)) | (zero < 7 ? -1L << 8 * (zero + 1) : 0);
            long blanks = s & (zero < 7 ? 0x2020202020202020L << 8 * (zero + 1) : 0)
                | Checks.pack("XXXXXXX".substring(0, zero));
            TraceWarden warden = new TraceWarden();
            Checks.due("zero byte " + zero, zero, () -> warden.text(s));
            Checks.due("zero byte " + zero + ", blanks behind", 2 * zero, () -> warden.text(blanks));
            TraceWarden whole = new TraceWarden();
            whole.text(s);
            Checks.due("one more", zero + 1, () -> whole.text('a'));
            Checks.due("nothing more than that", at + 2, whole::compile);
        }
        TraceWarden order = new TraceWarden();
        order.text('X' | 'a' << 8);
        Checks.due("the lowest first", 3, order::compile);
        TraceWarden eighth = new TraceWarden();
        eighth.text(Checks.pack("!!!!!!!z"));
        Checks.due("no property", ARGUMENT, eighth::compile);
        Checks.due("the eighth is there", 7, eighth::fault);
        TraceWarden rows = Checks.with("!!!!!!!!!!!!!!!!z");
        Checks.due("no property either", ARGUMENT, rows::compile);
        Checks.due("behind the text", 13, rows::fault);
        TraceWarden parts = new TraceWarden();
        for (char c : "G(!a|Xb)".toCharArray()) {
            parts.text(c);
        }
        Checks.due("one by one", 2, parts::compile);
    }

    private static void noByte() {
        TraceWarden warden = Checks.with("X");
        for (long s : new long[] {0, 0x100, 0x6100, 0x6161616161616100L, Long.MIN_VALUE, -256L, 1L << 32, 256L << 32}) {
            Checks.due("text " + s, -1, () -> warden.text(s));
        }
        Checks.due("nothing was put in", 2, () -> warden.text('a'));
        Checks.due("nothing but that", 3, warden::compile);
    }

    private static void wrongBytes() {
        for (int c = 1; c <= 255; c++) {
            boolean right = c >= 33 && c <= 126;
            for (int place = 0; place < 8; place++) {
                long others = Checks.pack("!!!!!!!!") & ~(255L << 8 * place);
                long s = others | (long) c << 8 * place;
                Checks.due("byte " + c + " at " + place, right ? 8 : -1, () -> new TraceWarden().text(s));
                // The last one that is put in, nothing behind it.
                long last = s & (place < 7 ? (1L << 8 * (place + 1)) - 1 : -1L);
                Checks.due("byte " + c + " last, at " + place, right ? place + 1 : -1,
                    () -> new TraceWarden().text(last));
            }
        }
        TraceWarden warden = new TraceWarden();
        Checks.due("right ones before a wrong one", -1, () -> warden.text('G' | 'b' << 8 | ' ' << 16));
        Checks.due("none of them was put in", 1, () -> warden.text('a'));
        Checks.due("none of them", 2, warden::compile);
    }

    /** Long texts are made of the ! alone: only how long they are counts. */
    private static void tooLong() {
        for (int length = 0; length <= 40; length++) {
            for (int more = 1; more <= 8; more++) {
                TraceWarden warden = Checks.with("!".repeat(length));
                int all = length + more;
                String row = "!".repeat(more);
                Checks.due(length + " and " + more, all <= 40 ? all : -1, () -> warden.text(Checks.pack(row)));
                int then = all <= 40 ? all : length;
                Checks.due(length + " and " + more + ", and 1", then < 40 ? then + 1 : -1, () -> warden.text('!'));
            }
        }
        TraceWarden full = Checks.with("(" + "!".repeat(11) + "c|(" + "!".repeat(10) + "a|" + "!".repeat(10) + "b))");
        Checks.due("a full one refuses", -1, () -> full.text(Checks.pack("zzzzzzzz")));
        Checks.due("and is what it was", 2, full::compile);
    }

    private static void wiped() {
        TraceWarden full = Checks.with("!".repeat(40));
        full.wipe();
        Checks.due("a full one is empty", 8, () -> full.text(Checks.pack("!!!!!!!!")));
        TraceWarden empty = new TraceWarden();
        empty.wipe();
        Checks.due("an empty one stays so", 1, () -> empty.text('a'));
        empty.wipe();
        Checks.due("no property", ARGUMENT, empty::compile);
        Checks.due("nothing is there", 0, empty::fault);
        TraceWarden shorter = Checks.with("(a&b)");
        shorter.wipe();
        shorter.text('a');
        Checks.due("nothing of the longer one is left", 2, shorter::compile);
        for (int way = 0; way < allWays().length; way++) {
            TraceWarden warden = allWays()[way];
            warden.wipe();
            Checks.same("nothing else changes, way " + way, seen(allWays()[way]), seen(warden));
            Checks.same("the run goes on, way " + way, goesOn(allWays()[way]), goesOn(warden));
        }
    }

    // ---- promises 4 and 5 ----

    private static void textStays() {
        TraceWarden warden = Checks.with("X");
        Checks.due("no property yet", ARGUMENT, warden::compile);
        Checks.due("what threw stays", 2, () -> warden.text('a'));
        Checks.due("compiled", 3, warden::compile);
        Checks.due("compiled again", 3, warden::compile);
        Checks.due("what was compiled stays", 3, () -> warden.text('b'));
        Checks.due("no property any more", ARGUMENT, warden::compile);
        TraceWarden many = Checks.with("XXXXXXXXX");
        Checks.due("ten obligations", 10, () -> many.text('a'));
        Checks.due("too many", UNSUPPORTED, many::compile);
        Checks.due("what were too many stays", 11, () -> many.text('b'));
        Checks.due("and is no property now", ARGUMENT, many::compile);
        TraceWarden none = Checks.with("X0");
        Checks.due("no states", 0, none::compile);
        Checks.due("the most states", 39, () -> Checks.with(GREATEST).compile());
        Checks.due("the other one first", 0, () -> Checks.put(Checks.compiled(GREATEST), "X0").compile());
        Checks.due("the greatest behind it", 39, () -> Checks.put(none, GREATEST).compile());
    }

    private static void noRunThen() {
        TraceWarden[] ways = {Checks.compiled("Ga"), Checks.begun("Ga"), Checks.begun("Ga", 1), ran("Ga", 60, 1),
            Checks.begun("Ga", 1, 0), Checks.begun("X0")};
        for (TraceWarden warden : ways) {
            warden.compile();
            Checks.due("time", -1, warden::time);
            Checks.due("window", -1, warden::window);
            Checks.due("step", STATE, () -> warden.step(1));
            Checks.due("loop", STATE, () -> warden.loop(0));
            Checks.due("report", "ready " + warden.size(0), () -> Checks.reported(warden));
            Checks.due("begin", warden.size(0) > 0, warden::begin);
            Checks.due("time of the new one", 0, warden::time);
            Checks.due("none of the old cycles", INDEX, () -> warden.loop(0));
        }
    }

    private static void noProperty() {
        for (String text : new String[] {"", "z", "aa", "G", "(a&b", "(a&b))", "{}>a", "{a*0}>a", "{a*2-1}>a", "!Ga",
            "{a}", "!".repeat(13) + "a", "!".repeat(40), "(".repeat(40), "G".repeat(40)}) {
            Checks.due(text, ARGUMENT, () -> Checks.with(text).compile());
        }
    }

    private static void tooMany() {
        Checks.due("9 obligations", 10, () -> Checks.with("XXXXXXXXa").compile());
        Checks.due("10 obligations", UNSUPPORTED, () -> Checks.with("XXXXXXXXXb").compile());
        Checks.due("8 places and the whole", 9, () -> Checks.with("{a*8}>b").compile());
        Checks.due("9 places and the whole", UNSUPPORTED, () -> Checks.with("{a*9}>b").compile());
        Checks.due("40 conditions", 39, () -> Checks.with(GREATEST).compile());
        Checks.due("40 conditions of one state", 1, () -> Checks.with("G{a,1*3-5}:1").compile());
        Checks.due("41 conditions", UNSUPPORTED, () -> Checks.with("{a+,b}:{a*3,c}:a").compile());
        Checks.due("41 conditions of one state", UNSUPPORTED, () -> Checks.with("{[b,c*3-5]+}>!0").compile());
        // What were too many is nothing to what is compiled then.
        TraceWarden warden = Checks.with("{a+,b}:{a*3,c}:a");
        Checks.due("too many", UNSUPPORTED, warden::compile);
        Checks.due("few behind it", 2, () -> Checks.put(warden, "a").compile());
        Checks.due("conditions", 3, () -> warden.size(2));
        Checks.due("too many obligations", UNSUPPORTED, Checks.put(warden, "{[a,b]*9}>c")::compile);
        Checks.due("one behind it", 1, () -> Checks.put(warden, "Ga").compile());
        Checks.due("obligations", 1, () -> warden.size(1));
    }

    private static void allStays() {
        String[] texts = {"", "G", "(a&b", "G".repeat(13) + "a", "XXXXXXXXXa", "{a*9}>0", "{a+,b}:{a*3,c}:a",
            "G{a,b*3-5}>Gc", "{[[[[[[[[a*9]*9]*9]*9]*9]*9]*9]*9]*9}>0"};
        for (String text : texts) {
            for (int way = 0; way < allWays().length; way++) {
                TraceWarden warden = Checks.put(allWays()[way], text);
                TraceWarden left = Checks.put(allWays()[way], text);
                String answer = Checks.answer(warden::compile);
                Checks.same(text + " throws, way " + way, true, answer.equals(ARGUMENT) || answer.equals(UNSUPPORTED));
                Checks.same(text + ", way " + way, withoutFault(seen(left)), withoutFault(seen(warden)));
                Checks.same(text + ", goes on, way " + way, goesOn(left), goesOn(warden));
            }
        }
    }

    private static String withoutFault(String seen) {
        return seen.substring(seen.indexOf(' '));
    }

    private static void fault(String text, int due) {
        TraceWarden warden = Checks.with(text);
        Checks.due(text, ARGUMENT, warden::compile);
        Checks.due(text + " fault", due, warden::fault);
    }

    private static void faultPlaces() {
        fault("z", 0);
        fault(")", 0);
        fault("~!!!", 0);
        fault("az", 1);
        fault("aa", 1);
        fault("(a&b)z", 5);
        fault("(aa", 2);
        fault("{a*0}>b", 3);
        fault("{a*5-4}>b", 5);
        fault("{a*10}>b", 4);
        fault("!(aWb)", 3);
        fault("zzzzzzzz", 0);
        // The first of several, and the last place of a full text.
        fault("(zz&)", 1);
        String full = "(" + "!".repeat(11) + "c|(" + "!".repeat(10) + "a|" + "!".repeat(10) + "b))";
        fault(full.substring(0, 39) + "z", 39);
        fault(full.substring(0, 39) + "a", 39);
        fault(full.substring(0, 38) + "z)", 38);
        fault("a" + "!".repeat(39), 1);
    }

    private static void somethingMissing() {
        fault("", 0);
        fault("G", 1);
        fault("!", 1);
        fault("(", 1);
        fault("(a", 2);
        fault("(a&", 3);
        fault("(a&b", 4);
        fault("{", 1);
        fault("{a", 2);
        fault("{a,", 3);
        fault("{a*", 3);
        fault("{a*1-", 5);
        fault("{[a", 3);
        fault("{[a]", 4);
        fault("{a}", 3);
        fault("{a}>", 4);
        String full = "(" + "!".repeat(11) + "c|(" + "!".repeat(10) + "a|" + "!".repeat(10) + "b))";
        for (int length = 0; length < 40; length++) {
            fault(full.substring(0, length), length);
        }
        fault("{" + "a,".repeat(19) + "a", 40);
        fault("{" + "[a]".repeat(1) + ",a".repeat(17) + ",!", 40);
        // What stood there before it was wiped is not behind it.
        TraceWarden wiped = Checks.put(Checks.with("(a&b)"), "(a");
        Checks.due("wiped", ARGUMENT, wiped::compile);
        Checks.due("wiped, fault", 2, wiped::fault);
    }

    private static void lastFault() {
        TraceWarden warden = Checks.with("(a&Gb");
        Checks.answer(warden::compile);
        Checks.due("told", 5, warden::fault);
        Checks.due("told again", 5, warden::fault);
        warden.text(')');
        Checks.due("not by text()", 5, warden::fault);
        warden.compile();
        Checks.due("not by what compiles", 5, warden::fault);
        Checks.answer(Checks.put(warden, "XXXXXXXXXa")::compile);
        Checks.due("not by too many obligations", 5, warden::fault);
        Checks.answer(Checks.put(warden, "{a+,b}:{a*3,c}:a")::compile);
        Checks.due("not by too many conditions", 5, warden::fault);
        warden.begin();
        warden.step(0);
        Checks.answer(() -> warden.step(8));
        Checks.answer(() -> warden.size(5));
        Checks.due("not by another call's exception", 5, warden::fault);
        warden.wipe();
        Checks.due("not by wipe()", 5, warden::fault);
        Checks.answer(warden::compile);
        Checks.due("the last one: nothing is there", 0, warden::fault);
        Checks.answer(Checks.put(warden, "!".repeat(40))::compile);
        Checks.due("the last one: too deep", 13, warden::fault);
        Checks.answer(Checks.put(warden, "Gz")::compile);
        Checks.due("the last one", 1, warden::fault);
    }

    private static void faultsTooDeep() {
        String g12 = "G".repeat(12);
        fault(g12 + "Ga", 13);
        fault(g12 + "Xa", 13);
        fault(g12 + "!a", 13);
        fault(g12 + "(a&b)", 13);
        fault(g12 + "{a}>b", 13);
        fault("!".repeat(13) + "a", 13);
        fault("!".repeat(40), 13);
        fault("(".repeat(40), 13);
        fault("{" + "[".repeat(39), 13);
        fault("{" + "(".repeat(39), 12);
        fault("G".repeat(11) + "{a}>b", 12);
        fault("G".repeat(11) + "{[a]}>b", 13);
        fault("G".repeat(10) + "{!a}>b", 12);
        fault("G".repeat(10) + "{a,b,(a|b)}>c", 16);
        fault("G".repeat(10) + "{a}>!!b", 16);
        // Where it is missing.
        fault(g12 + "G", 13);
        fault(g12 + "X", 13);
        fault(g12 + "!", 13);
        fault(g12 + "(", 13);
        fault(g12 + "{", 13);
        fault("G".repeat(11) + "{", 12);
        fault("G".repeat(11) + "{[", 13);
        fault("G".repeat(10) + "{a,!", 14);
        // Not before: what leads there can stand, and a fault before it is told.
        fault(g12, 12);
        fault(g12 + "z", 12);
        fault("z" + g12 + "Ga", 0);
        fault(g12 + "GaG", 13);
        fault("(a&" + "!".repeat(12) + "a", 15);
        fault("(a&" + "!".repeat(11) + "a", 15);
        fault("(a&" + "!".repeat(11) + "a))", 16);
    }

    private static void noFault() {
        Checks.due("new", -1, () -> new TraceWarden().fault());
        Checks.due("with a text that is no property", -1, () -> Checks.with("Gz").fault());
        Checks.due("compiled", -1, () -> Checks.compiled("Ga").fault());
        TraceWarden many = Checks.with("XXXXXXXXXa");
        Checks.due("too many obligations", UNSUPPORTED, many::compile);
        Checks.due("too many obligations, fault", -1, many::fault);
        TraceWarden more = Checks.with("{a+,b}:{a*3,c}:a");
        Checks.due("too many conditions", UNSUPPORTED, more::compile);
        Checks.due("too many conditions, fault", -1, more::fault);
        TraceWarden others = Checks.begun("Ga");
        Checks.due("another call's exception", ARGUMENT, () -> others.step(8));
        Checks.due("another call's exception, fault", -1, others::fault);
        Checks.due("one more", ARGUMENT, () -> others.size(9));
        Checks.due("one more, fault", -1, others::fault);
    }

    // ---- promises 6 to 8 ----

    private static void sizes() {
        String[] texts = {"0", "1", "G1", "Ga", "a", "X0", "G(!a|Xb)", "{a,[b/c]+}>(bWa)", "XXXXXXXXa", GREATEST};
        int[][] due = {{0, 1, 2, 1, 0}, {1, 1, 2, 1, 1}, {1, 1, 1, 1, 1}, {1, 1, 2, 1, 2}, {2, 1, 3, 2, 8},
            {0, 2, 3, 1, 0}, {2, 2, 3, 2, 9}, {4, 5, 5, 3, 33}, {10, 9, 11, 4, 26}, {39, 8, 40, 6, 130}};
        TraceWarden one = new TraceWarden();
        for (int i = 0; i < texts.length; i++) {
            TraceWarden warden = Checks.compiled(texts[i]);
            Checks.put(one, texts[i]).compile();
            for (int what = 0; what < 5; what++) {
                int w = what;
                Checks.due(texts[i] + " " + w, due[i][w], () -> warden.size(w));
                Checks.due(texts[i] + " behind others " + w, due[i][w], () -> one.size(w));
            }
        }
        for (int i = texts.length - 1; i >= 0; i--) {
            Checks.put(one, texts[i]).compile();
            for (int what = 0; what < 5; what++) {
                int w = what;
                Checks.due(texts[i] + " behind greater ones " + w, due[i][w], () -> one.size(w));
            }
        }
        TraceWarden written = Checks.compiled("Ga");
        Checks.put(written, GREATEST);
        Checks.due("of what was compiled, not of the text", 1, () -> written.size(0));
        nothingIsLeft();
    }

    /** Nothing of what was compiled before is left in what is compiled then, whichever the two are. */
    private static void nothingIsLeft() {
        String[] texts = {"0", "1", "Ga", "a", "(Ga|Gb)", "X{a+}>Xb", "{a,[b/c]+}>(bWa)", "{a+,b}:Xc", "XXXXXXXXa",
            "G{a,1*3-5}:1", "{b+,[c]*2,[a,a,c]}:Gc", "{a+}>{b,c,c*1-3,a}:b", "(X{c+,1*2}:bWGGa)",
            "(({a*3,c,a+}:c&G1)W((cW!0)&(0|c)))", "X!a", "({c+,b*3,a*2}>bWG!b)", "(XcWXb)", "{[[a]*2-4]}:({b+}:cWGc)",
            "XXc", GREATEST};
        for (String before : texts) {
            for (String then : texts) {
                TraceWarden warden = Checks.compiled(before);
                warden.size(4);
                Checks.put(warden, then).compile();
                Checks.same(then + " behind " + before, table(Checks.compiled(then)), table(warden));
            }
        }
    }

    /** All sizes and states that come of state 0; up to some 320 calls. */
    private static String table(TraceWarden warden) {
        StringBuilder all = new StringBuilder();
        for (int what = 0; what < 5; what++) {
            all.append(warden.size(what)).append(' ');
        }
        int states = warden.size(0);
        for (int state = 0; state < states; state++) {
            for (int letter = 0; letter < 8; letter++) {
                all.append(warden.next(state, letter)).append(' ');
            }
        }
        return all.toString();
    }

    private static void noSize() {
        TraceWarden warden = Checks.compiled("Ga");
        TraceWarden threw = Checks.with("XXXXXXXXXa");
        Checks.answer(threw::compile);
        for (int what : new int[] {LEAST, -5, -1, 5, 6, 256, 1 << 16, MOST}) {
            Checks.due("another what " + what, ARGUMENT, () -> warden.size(what));
            Checks.due("nothing was, " + what, STATE, () -> threw.size(what));
        }
        for (int what = 0; what < 5; what++) {
            int w = what;
            Checks.due("nothing was, " + w, STATE, () -> threw.size(w));
            Checks.due("a text alone, " + w, STATE, () -> Checks.with("Ga").size(w));
        }
    }

    private static void nextStates() {
        TraceWarden warden = Checks.compiled("XXXXXXXXa");
        for (int state = 0; state < 10; state++) {
            int s = state;
            Checks.due("by 0 from " + s, s < 8 ? s + 1 : s == 8 ? -1 : 9, () -> warden.next(s, 0));
            Checks.due("by 7 from " + s, s < 8 ? s + 1 : 9, () -> warden.next(s, 7));
        }
        TraceWarden greatest = Checks.compiled(GREATEST);
        Checks.due("the last of 39", 38, () -> greatest.next(38, 7));
        Checks.due("the last of 39 by 0", -1, () -> greatest.next(38, 0));
        Checks.due("a run is nothing to it", -1, () -> Checks.begun("(Ga|Gb)", 1, 2).next(0, 0));
    }

    private static void noNext() {
        TraceWarden warden = Checks.compiled("G(!a|Xb)");
        for (int far : new int[] {LEAST, -2, -1, 8, 9, 16, 1 << 28, 1 << 29, MOST}) {
            Checks.due("letter " + far, ELEMENT, () -> warden.next(0, far));
            Checks.due("letter " + far + " of the last state", ELEMENT, () -> warden.next(1, far));
            Checks.due("state " + far, ELEMENT, () -> warden.next(far, 0));
            Checks.due("both " + far, ELEMENT, () -> warden.next(far, far));
            Checks.due("nothing was, " + far, STATE, () -> Checks.with("Ga").next(far, far));
        }
        Checks.due("the failed code is no state", ELEMENT, () -> warden.next(2, 0));
        Checks.due("the last state is one", -1, () -> warden.next(1, 0));
        TraceWarden greatest = Checks.compiled(GREATEST);
        Checks.due("state 39 of 39", ELEMENT, () -> greatest.next(39, 0));
        TraceWarden fewer = Checks.put(greatest, "Ga");
        fewer.compile();
        Checks.due("state 1 of 1, when there were more", ELEMENT, () -> fewer.next(1, 0));
        Checks.due("state 0 of none", ELEMENT, () -> Checks.compiled("0").next(0, 0));
        Checks.due("nothing was", STATE, () -> new TraceWarden().next(0, 0));
    }

    private static void outputs() {
        TraceWarden one = Checks.compiled("Ga");
        Checks.due("output 0 of code 0 by 0", true, () -> one.output(0, 0, 0));
        Checks.due("output 0 of code 0 by 1", false, () -> one.output(0, 0, 1));
        Checks.due("alarm of code 0 by 0", true, () -> one.output(1, 0, 0));
        Checks.due("alarm of code 0 by 1", false, () -> one.output(1, 0, 1));
        Checks.due("alarm of code 1 by 7", true, () -> one.output(1, 1, 7));
        TraceWarden greatest = Checks.compiled(GREATEST);
        // 39 is 100111 in bits: the next code of the failed one, and of all above up to 63.
        for (int code : new int[] {39, 40, 63}) {
            for (int output = 0; output <= 6; output++) {
                int o = output;
                boolean due = output == 6 || (39 >> output & 1) != 0;
                Checks.due("output " + o + " of " + code + " by 0", due, () -> greatest.output(o, code, 0));
                Checks.due("output " + o + " of " + code + " by 7", due, () -> greatest.output(o, code, 7));
            }
        }
        Checks.due("code 64", INDEX, () -> greatest.output(0, 64, 0));
    }

    private static void noOutput() {
        TraceWarden warden = Checks.compiled("G(!a|Xb)");
        for (int far : new int[] {LEAST, -2, -1, 8, 9, 32, 1 << 29, MOST}) {
            Checks.due("output " + far, INDEX, () -> warden.output(far, 0, 0));
            Checks.due("code " + far, INDEX, () -> warden.output(0, far, 0));
            Checks.due("letter " + far, INDEX, () -> warden.output(0, 0, far));
            Checks.due("letter " + far + " of the alarm", INDEX, () -> warden.output(2, 3, far));
            Checks.due("all " + far, INDEX, () -> warden.output(far, far, far));
            Checks.due("nothing was, " + far, STATE, () -> Checks.with("Ga").output(far, far, far));
        }
        Checks.due("output 3 of 0 .. 2", INDEX, () -> warden.output(3, 0, 0));
        Checks.due("code 4 of 0 .. 3", INDEX, () -> warden.output(0, 4, 0));
        Checks.due("the last of all", true, () -> warden.output(2, 3, 7));
        TraceWarden fewer = Checks.put(Checks.compiled(GREATEST), "Ga");
        fewer.compile();
        Checks.due("output 2 of 0 .. 1, when there were more", INDEX, () -> fewer.output(2, 0, 0));
        Checks.due("code 2 of 0 .. 1, when there were more", INDEX, () -> fewer.output(0, 2, 0));
        Checks.due("nothing was", STATE, () -> new TraceWarden().output(0, 0, 0));
    }

    // ---- promises 9 to 13 ----

    private static void begins() {
        TraceWarden[] ways = {Checks.compiled("G(!a|Xb)"), Checks.begun("G(!a|Xb)"), Checks.begun("G(!a|Xb)", 1),
            ran("G(!a|Xb)", 60, 3), Checks.begun("G(!a|Xb)", 1, 0)};
        for (TraceWarden warden : ways) {
            Checks.due("begin", true, warden::begin);
            Checks.due("time", 0, warden::time);
            Checks.due("window", -1, warden::window);
            Checks.due("loop", INDEX, () -> warden.loop(0));
            Checks.due("report", "run 0 in 0", () -> Checks.reported(warden));
            Checks.due("in state 0", 0, () -> warden.step(0));
            Checks.due("in state 0 still", 1, () -> warden.step(1));
            Checks.due("and its trace is its own", 2, () -> warden.step(4) < 0 ? warden.window() : 0);
        }
        TraceWarden again = ran("Ga", 60, 1);
        again.begin();
        for (int i = 0; i < 60; i++) {
            Checks.due("60 cycles more", 0, () -> again.step(1));
        }
        Checks.due("and no more", STATE, () -> again.step(1));
    }

    private static void failedAtOnce() {
        TraceWarden warden = Checks.compiled("X0");
        for (int i = 0; i < 2; i++) {
            Checks.due("begin", false, warden::begin);
            Checks.due("there is a run", 0, warden::time);
            Checks.due("which has failed", 0, warden::window);
            Checks.due("and can't go on", STATE, () -> warden.step(0));
        }
        Checks.put(warden, "Ga").compile();
        Checks.due("another property", true, warden::begin);
        Checks.put(warden, "0").compile();
        Checks.due("and none again", false, warden::begin);
    }

    private static void nothingToBegin() {
        Checks.due("new", STATE, () -> new TraceWarden().begin());
        Checks.due("a text alone", STATE, () -> Checks.with("Ga").begin());
        for (String text : new String[] {"Gz", "XXXXXXXXXa", "{a+,b}:{a*3,c}:a"}) {
            TraceWarden warden = Checks.with(text);
            Checks.answer(warden::compile);
            Checks.due(text, STATE, warden::begin);
            Checks.due(text + ", no run", -1, warden::time);
        }
    }

    private static void steps() {
        TraceWarden warden = Checks.begun("XXXXXXXXa");
        for (int cycle = 0; cycle < 8; cycle++) {
            Checks.due("cycle " + cycle, cycle + 1, () -> warden.step(0));
        }
        Checks.due("the ninth", 9, () -> warden.step(1));
        Checks.due("for ever", 9, () -> warden.step(0));
        Checks.due("the first one fails", -1, () -> Checks.begun("Ga").step(0));
        TraceWarden last = ran("Ga", 59, 1);
        Checks.due("the sixtieth is a cycle", 0, () -> last.step(1));
        TraceWarden fails = ran("Ga", 59, 1);
        Checks.due("the sixtieth can fail", -1, () -> fails.step(0));
        Checks.due("the sixtieth is counted", 60, fails::time);
        Checks.due("letter 7", 0, () -> Checks.begun("Ga").step(7));
        Checks.due("letter 0", 0, () -> Checks.begun("G!a").step(0));
    }

    private static void noStep() {
        for (int letter : new int[] {LEAST, -1, 0, 7, 8, MOST}) {
            Checks.due("nothing compiled " + letter, STATE, () -> new TraceWarden().step(letter));
            Checks.due("no run " + letter, STATE, () -> Checks.compiled("Ga").step(letter));
            Checks.due("failed " + letter, STATE, () -> Checks.begun("Ga", 0).step(letter));
            Checks.due("failed at once " + letter, STATE, () -> Checks.begun("0").step(letter));
            Checks.due("60 cycles " + letter, STATE, () -> ran("G1", 60, 1).step(letter));
            TraceWarden again = ran("Ga", 3, 1);
            again.compile();
            Checks.due("compiled again " + letter, STATE, () -> again.step(letter));
        }
        for (int cycles = 0; cycles <= 60; cycles++) {
            Object due = cycles < 60 ? 0 : STATE;
            TraceWarden warden = ran("Ga", cycles, 1);
            Checks.due(cycles + " cycles", due, () -> warden.step(1));
        }
        TraceWarden full = ran("Ga", 60, 1);
        Checks.due("full", STATE, () -> full.step(0));
        Checks.due("it has not failed by that", "run 60 in 0", () -> Checks.reported(full));
        TraceWarden failed = Checks.begun("Ga", 1, 0);
        Checks.due("failed", STATE, () -> failed.step(1));
        Checks.due("it had no cycle more", "failed 2 by 1", () -> Checks.reported(failed));
    }

    private static void noLetter() {
        for (int letter : new int[] {LEAST, -8, -1, 8, 9, 255, 256, MOST}) {
            TraceWarden warden = Checks.begun("Ga");
            Checks.due("before cycle 0, " + letter, ARGUMENT, () -> warden.step(letter));
            Checks.due("no cycle, " + letter, 0, warden::time);
            TraceWarden late = ran("Ga", 59, 1);
            Checks.due("before the last cycle, " + letter, ARGUMENT, () -> late.step(letter));
            Checks.due("which can still be, " + letter, 0, () -> late.step(1));
        }
        for (int letter = 0; letter < 8; letter++) {
            int l = letter;
            Checks.due("letter " + letter, 0, () -> Checks.begun("G1").step(l));
        }
    }

    private static void times() {
        Checks.due("new", -1, () -> new TraceWarden().time());
        Checks.due("compiled", -1, () -> Checks.compiled("Ga").time());
        Checks.due("failed at once", 0, () -> Checks.begun("0").time());
        for (int cycles = 0; cycles <= 60; cycles++) {
            TraceWarden warden = ran("Ga", cycles, 1);
            Checks.due("cycles", cycles, warden::time);
        }
        TraceWarden full = ran("Ga", 60, 1);
        Checks.answer(() -> full.step(1));
        Checks.due("no more than 60", 60, full::time);
        Checks.due("the cycle that failed counts", 3, () -> Checks.begun("Ga", 1, 1, 0).time());
        full.begin();
        Checks.due("begun again", 0, full::time);
        full.compile();
        Checks.due("none", -1, full::time);
    }

    private static void windows() {
        Checks.due("no cycle", 0, () -> Checks.begun("X0").window());
        Checks.due("the only cycle", 1, () -> Checks.begun("Ga", 0).window());
        Checks.due("the last of three", 1, () -> Checks.begun("Ga", 1, 1, 0).window());
        Checks.due("the last two", 2, () -> Checks.begun("G(!a|Xb)", 0, 1, 3, 0).window());
        Checks.due("all nine", 9, () -> Checks.begun("XXXXXXXXa", 1, 1, 1, 1, 1, 1, 1, 1, 0).window());
        TraceWarden all = Checks.begun("(Ga|Gb)", 1);
        TraceWarden most = Checks.begun("(Ga|Gb)", 3, 1);
        TraceWarden one = ran("Ga", 59, 1);
        for (int i = 0; i < 57; i++) {
            all.step(3);
            most.step(3);
        }
        all.step(3);
        all.step(2);
        most.step(2);
        one.step(0);
        Checks.due("all of 60", 60, all::window);
        Checks.due("all but the first of 60", 59, most::window);
        Checks.due("the last of 60", 1, one::window);
        // A piece that fails before its last cycle fails, too; a longer one that doesn't is nothing to it.
        Checks.due("the shortest one", 3, () -> Checks.begun("({a}>XXXb&{!a}>Xc)", 1, 0, 1, 0).window());
        Checks.due("not the whole trace", 1, () -> Checks.begun("(aWb)", 1, 1, 0).window());
        TraceWarden asked = Checks.begun("Ga", 1, 0);
        Checks.due("asked", 1, asked::window);
        Checks.due("asked again", 1, asked::window);
        Checks.due("the run is what it was", "failed 2 by 1", () -> Checks.reported(asked));
    }

    private static void noWindow() {
        Checks.due("new", -1, () -> new TraceWarden().window());
        Checks.due("compiled", -1, () -> Checks.compiled("X0").window());
        Checks.due("begun", -1, () -> Checks.begun("Ga").window());
        Checks.due("not failed", -1, () -> Checks.begun("Ga", 1, 1).window());
        Checks.due("full", -1, () -> ran("Ga", 60, 1).window());
        TraceWarden failed = Checks.begun("Ga", 0);
        failed.begin();
        Checks.due("begun again", -1, failed::window);
        TraceWarden compiled = Checks.begun("Ga", 0);
        compiled.compile();
        Checks.due("compiled again", -1, compiled::window);
    }

    private static void loops() {
        TraceWarden one = Checks.begun("Ga", 1);
        Checks.due("one cycle", true, () -> one.loop(0));
        TraceWarden full = ran("G(!a|Xb)", 59, 3);
        full.step(2);
        for (int from = 0; from < 60; from++) {
            int f = from;
            Checks.due("full, from " + from, true, () -> full.loop(f));
        }
        TraceWarden wish = ran("G(!a|Xb)", 58, 0);
        wish.step(2);
        wish.step(1);
        // The last cycle asks for b in the first one that comes again.
        for (int from = 0; from < 60; from++) {
            int f = from;
            Checks.due("a wish at the end, from " + from, from == 58, () -> wish.loop(f));
        }
        TraceWarden row = Checks.begun("XXXXXXXXa", 1, 0);
        Checks.due("it fails only after rounds", true, () -> row.loop(0));
        Checks.due("it fails only after rounds", false, () -> row.loop(1));
        TraceWarden lone = Checks.begun("XXXXXXXXa", 0);
        Checks.due("eight rounds of one cycle", false, () -> lone.loop(0));
        Checks.due("the run is what it was", "run 1 in 1", () -> Checks.reported(lone));
        Checks.due("never in time", true, () -> Checks.begun("XXXXXXXXa", 1).loop(0));
        TraceWarden failed = Checks.begun("Ga", 1, 0);
        Checks.due("failed, from the first", false, () -> failed.loop(0));
        Checks.due("failed, from the last", false, () -> failed.loop(1));
        TraceWarden counts = Checks.begun("{1*4}>{1*4}>a", 3);
        Checks.due("rounds enough", true, () -> counts.loop(0));
        Checks.due("rounds enough to fail", false, () -> Checks.begun("{1*4}>{1*4}>a", 2).loop(0));
    }

    private static void noLoop() {
        for (int from : new int[] {LEAST, -60, -2, -1, 60, 61, 1 << 30, MOST}) {
            Checks.due("nothing compiled, " + from, STATE, () -> new TraceWarden().loop(from));
            Checks.due("no run, " + from, STATE, () -> Checks.compiled("Ga").loop(from));
            Checks.due("no cycle, " + from, INDEX, () -> Checks.begun("Ga").loop(from));
            Checks.due("a full run, " + from, INDEX, () -> ran("Ga", 60, 1).loop(from));
            Checks.due("a failed run, " + from, INDEX, () -> Checks.begun("Ga", 1, 0).loop(from));
        }
        Checks.due("no run, 0", STATE, () -> Checks.compiled("Ga").loop(0));
        Checks.due("no cycle, 0", INDEX, () -> Checks.begun("Ga").loop(0));
        Checks.due("failed at once, 0", INDEX, () -> Checks.begun("0").loop(0));
        Checks.due("one cycle, 1", INDEX, () -> Checks.begun("Ga", 1).loop(1));
        Checks.due("a failed run of 2, 2", INDEX, () -> Checks.begun("Ga", 1, 0).loop(2));
        Checks.due("a full run, 59", true, () -> ran("Ga", 60, 1).loop(59));
        TraceWarden again = ran("Ga", 60, 1);
        again.begin();
        again.step(1);
        Checks.due("a cycle that another run had", INDEX, () -> again.loop(1));
        again.compile();
        Checks.due("no run any more", STATE, () -> again.loop(0));
    }

    // ---- promises 14 and 15 ----

    /** What is reported, how long it is told to be, and that nothing stands before and behind it. */
    private static void reports(TraceWarden warden, String due) {
        Checks.due("report " + due, due.length(), warden::report);
        for (int i = -2; i < 20; i++) {
            int at = i;
            char c = i >= 0 && i < due.length() ? due.charAt(i) : 0;
            Checks.due(due + ", said " + i, (int) c, () -> (int) warden.said(at));
        }
    }

    private static void reportNone() {
        reports(new TraceWarden(), "none");
        reports(Checks.with("Ga"), "none");
        TraceWarden warden = Checks.with("XXXXXXXXXa");
        Checks.answer(warden::compile);
        reports(warden, "none");
        Checks.answer(Checks.put(warden, "Gz")::compile);
        Checks.answer(warden::begin);
        reports(warden, "none");
    }

    private static void reportReady() {
        reports(Checks.compiled("0"), "ready 0");
        reports(Checks.compiled("1"), "ready 1");
        reports(Checks.compiled("XXXXXXXXa"), "ready 10");
        reports(Checks.compiled(GREATEST), "ready 39");
        TraceWarden warden = Checks.begun("Ga", 1, 0);
        warden.compile();
        reports(warden, "ready 1");
        Checks.answer(Checks.put(warden, "XXXXXXXXXa")::compile);
        reports(warden, "ready 1");
    }

    private static void reportRun() {
        reports(Checks.begun("Ga"), "run 0 in 0");
        reports(Checks.begun("Ga", 1), "run 1 in 0");
        reports(ran("Ga", 9, 1), "run 9 in 0");
        reports(ran("Ga", 10, 1), "run 10 in 0");
        reports(ran("Ga", 60, 1), "run 60 in 0");
        reports(ran("XXXXXXXXa", 8, 0), "run 8 in 8");
        reports(Checks.begun("XXXXXXXXa", 0, 0, 0, 0, 0, 0, 0, 0, 1), "run 9 in 9");
        reports(ran("XXXXXXXXa", 60, 1), "run 60 in 9");
        reports(Checks.begun(GREATEST, 1, 4, 4, 5), "run 4 in 9");
        reports(Checks.begun(GREATEST, 1, 4, 5, 4), "run 4 in 10");
        TraceWarden highest = Checks.begun(GREATEST, 1);
        for (int i = 0; i < 59; i++) {
            highest.step(5);
        }
        reports(highest, "run 60 in 38");
    }

    private static void reportFailed() {
        reports(Checks.begun("0"), "failed 0 by 0");
        reports(Checks.begun("Ga", 0), "failed 1 by 1");
        reports(Checks.begun("Ga", 1, 1, 1, 1, 1, 1, 1, 1, 0), "failed 9 by 1");
        reports(Checks.begun("Ga", 1, 1, 1, 1, 1, 1, 1, 1, 1, 0), "failed 10 by 1");
        TraceWarden warden = Checks.begun("(Ga|Gb)", 1);
        for (int i = 0; i < 58; i++) {
            warden.step(3);
        }
        warden.step(2);
        reports(warden, "failed 60 by 60");
        Checks.answer(() -> warden.step(1));
        reports(warden, "failed 60 by 60");
    }

    private static void characters() {
        Checks.due("never written, 0", 0, () -> (int) new TraceWarden().said(0));
        Checks.due("never written, -1", 0, () -> (int) new TraceWarden().said(-1));
        TraceWarden warden = Checks.begun("Ga");
        Checks.due("never written in a run", 0, () -> (int) warden.said(0));
        warden.report();
        for (int i : new int[] {LEAST, -1000, -1, 10, 11, 1000, MOST}) {
            Checks.due("there is none, " + i, 0, () -> (int) warden.said(i));
        }
        Checks.due("the first", 'r', () -> warden.said(0));
        Checks.due("the last", '0', () -> warden.said(9));
        warden.step(1);
        warden.step(0);
        Checks.due("what was written stays: the first", 'r', () -> warden.said(0));
        Checks.due("what was written stays: the cycles", '0', () -> warden.said(4));
        warden.report();
        Checks.due("written anew: the first", 'f', () -> warden.said(0));
        Checks.due("written anew: the last", '1', () -> warden.said(12));
        Checks.due("written anew: behind it", 0, () -> (int) warden.said(13));
        warden.compile();
        Checks.due("not by compile()", 'f', () -> warden.said(0));
        warden.report();
        Checks.due("a shorter one: the last", '1', () -> warden.said(6));
        Checks.due("a shorter one: behind it", 0, () -> (int) warden.said(7));
        Checks.due("a shorter one: far behind it", 0, () -> (int) warden.said(12));
    }
}
