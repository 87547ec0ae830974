/** What a property is compiled to: each sentence of the terms that names a boundary, with a test of its own. */
public final class MonitorBoundariesTest {
    private static final String STATE = "throws.IllegalStateException";
    private static final String INDEX = "throws.IndexOutOfBoundsException";
    private static final String ELEMENT = "throws.NoSuchElementException";
    private static final String UNSUPPORTED = "throws.UnsupportedOperationException";

    private MonitorBoundariesTest() {
    }

    public static void main(String[] args) {
        Sentences sentences = new Sentences();
        sentences.of("Terms");
        meaning(sentences);
        limits(sentences);
        monitor(sentences);
        circuit(sentences);
        Checks.finish();
    }

    private static void meaning(Sentences sentences) {
        sentences.test("A TRACE is a row of letters, from cycle 0 on.", MonitorBoundariesTest::traces);
        sentences.test("A boolean HOLDS from a cycle on if it is true of the letter there (0 never, 1 always; ! not, "
            + "& both, | at least one).", MonitorBoundariesTest::booleans);
        sentences.test("X p: p holds from the next cycle on.", MonitorBoundariesTest::nextCycle);
        sentences.test("G p: p holds from that cycle and from all behind it.", MonitorBoundariesTest::allCycles);
        sentences.test("(p W q): q holds from some cycle there or behind it, and p from all before that; or p from "
            + "all.", MonitorBoundariesTest::until);
        sentences.test("{s}>p: p holds from each cycle at which s, begun there, can end; {s}:p: from each cycle behind "
            + "such a one.", MonitorBoundariesTest::rules);
        sentences.test("A sequence begun at a cycle ENDS so: a boolean at that cycle, if it is true there; s,t where t "
            + "ends, begun behind a cycle at which s ends; [s/t] where one of them ends; u*m as m times u, with , "
            + "between; u*m-n as m times or more, at most n; u+ as once or more.", MonitorBoundariesTest::ends);
    }

    private static void limits(Sentences sentences) {
        sentences.test("A place is a boolean of a sequence (a unit), as often as it stands there when all * are "
            + "written out (u*m-n with n copies).", MonitorBoundariesTest::places);
        sentences.test("The properties are: the whole one; each G and W; what stands behind an X; what stands behind "
            + "a : (one that is so for two reasons counts once).", MonitorBoundariesTest::properties);
        sentences.test("There may be at most 9 obligations.", MonitorBoundariesTest::tooManyObligations);
        sentences.test("What is ASKED by a letter: a boolean asks nothing if it is true of it, else what can't be. "
            + "X p: p. G p: what p asks, and itself. & and |: what both, what one of the two asks. (p W q): what q "
            + "asks; or what p asks, and itself.", MonitorBoundariesTest::askedByProperties);
        sentences.test("A place: nothing if its boolean isn't true; otherwise all places that follow it, and, if it is "
            + "a last one, what p asks (for >) or p (for :).", MonitorBoundariesTest::askedByPlaces);
        sentences.test("Two that say the same are one.", MonitorBoundariesTest::sameConditions);
        sentences.test("There may be at most 40 conditions that come of the first one, by any letters (that which "
            + "nothing is enough for, and that which nothing asks, count, too).",
            MonitorBoundariesTest::tooManyConditions);
    }

    private static void monitor(Sentences sentences) {
        sentences.test("FAILING is the condition which nothing is enough for, and each one from which all eight "
            + "letters lead to failing ones.", MonitorBoundariesTest::failing);
        sentences.test("Those that are not, and from which just the same rows of letters lead to failing ones, are "
            + "one STATE.", MonitorBoundariesTest::sameStates);
        sentences.test("States are numbered from 0 on as they are met: that of the first condition; then, from state "
            + "to state, letter by letter.", MonitorBoundariesTest::numbers);
        sentences.test("So the monitor, begun in state 0, fails by a letter just if no endless trace that begins with "
            + "the letters up to that one makes the property hold from cycle 0 on.", MonitorBoundariesTest::atOnce);
        sentences.test("(If the first condition is failing, there are no states, and a run has failed when it begins.)",
            MonitorBoundariesTest::noStates);
    }

    private static void circuit(Sentences sentences) {
        sentences.test("With k states, CODES are 0 .. k - 1 for these and k for failed; BITS is the least n, 1 or "
            + "more, for which 2 to the n is above k.", MonitorBoundariesTest::bits);
        sentences.test("Its inputs are, in this order, a, b, c, and the bits of a code from the highest to the lowest.",
            MonitorBoundariesTest::inputs);
        sentences.test("OUTPUT 0 .. BITS - 1: that bit of the next code, of k and all codes above: k.",
            MonitorBoundariesTest::nextCodes);
        sentences.test("Output BITS, the alarm: whether the next code is k.", MonitorBoundariesTest::alarm);
        sentences.test("GATES: how many different functions of all the inputs come of the outputs by fixing the first "
            + "0, 1, 2, .. inputs in all ways, those that are constant not counted.", MonitorBoundariesTest::gates);
    }

    private static void states(String text, int due) {
        Checks.due("states of " + text, due, () -> Checks.with(text).compile());
    }

    private static void size(String text, int what, int due) {
        Checks.due("size(" + what + ") of " + text, due, () -> Checks.compiled(text).size(what));
    }

    /** Whether a property holds if these letters come, those from a cycle on again and again. */
    private static void holds(boolean due, String text, int from, int... letters) {
        Checks.due(text + " on " + java.util.Arrays.toString(letters) + " from " + from, due, () -> {
            TraceWarden warden = Checks.compiled(text);
            if (!warden.begin()) {
                return false;
            }
            for (int letter : letters) {
                if (warden.step(letter) < 0) {
                    return false;
                }
            }
            return warden.loop(from);
        });
    }

    private static void traces() {
        holds(true, "a", 2, 1, 0, 0);
        holds(false, "a", 0, 0, 1, 1);
        holds(true, "Xa", 2, 0, 1, 0);
        holds(true, "XXa", 2, 0, 0, 1);
        holds(false, "XXa", 2, 1, 1, 0);
        holds(true, "XXXXXXXXa", 8, 0, 0, 0, 0, 0, 0, 0, 0, 1);
        holds(false, "XXXXXXXXa", 8, 1, 1, 1, 1, 1, 1, 1, 1, 0);
    }

    /** The letters that a boolean is true of, as a set: as a property, behind a !, and as a place. */
    private static void isTrueOf(String bool, int letters) {
        for (int letter = 0; letter < 8; letter++) {
            boolean due = (letters >> letter & 1) != 0;
            holds(due, bool, 0, letter);
            holds(!due, "!" + bool, 0, letter);
            holds(due, "!!" + bool, 0, letter);
            holds(!due, "{" + bool + "}>0", 0, letter);
            holds(due, "{!" + bool + "}>0", 0, letter);
        }
    }

    private static void booleans() {
        isTrueOf("0", 0);
        isTrueOf("1", 255);
        isTrueOf("a", 0b10101010);
        isTrueOf("b", 0b11001100);
        isTrueOf("c", 0b11110000);
        isTrueOf("(a&b)", 0b10001000);
        isTrueOf("(a|b)", 0b11101110);
        isTrueOf("(b&c)", 0b11000000);
        isTrueOf("(a|c)", 0b11111010);
        isTrueOf("(a&!a)", 0);
        isTrueOf("(!a|a)", 255);
        isTrueOf("((a&b)&c)", 128);
        isTrueOf("(a|(b|c))", 254);
        isTrueOf("(1&a)", 0b10101010);
        isTrueOf("(0|a)", 0b10101010);
        isTrueOf("(0&a)", 0);
        isTrueOf("(1|a)", 255);
    }

    private static void nextCycle() {
        holds(true, "Xa", 1, 0, 1);
        holds(false, "Xa", 1, 1, 0);
        // The cycle next to the last one is that from which all comes again.
        holds(true, "XXXa", 1, 0, 1, 0);
        holds(false, "XXXa", 0, 0, 1, 0);
        holds(true, "Xa", 0, 1);
        holds(false, "Xa", 0, 0);
        states("X1", 1);
        states("X0", 0);
    }

    private static void allCycles() {
        holds(true, "Ga", 0, 1);
        holds(false, "Ga", 1, 0, 1);
        holds(false, "Ga", 1, 1, 0);
        holds(true, "XGa", 1, 0, 1);
        holds(false, "XGa", 0, 0, 1);
        holds(false, "XGa", 2, 0, 1, 0, 1);
        TraceWarden last = Checks.begun("Ga");
        for (int cycle = 0; cycle < 59; cycle++) {
            last.step(1);
        }
        Checks.due("Ga in the last cycle of a run", -1, () -> last.step(0));
    }

    private static void until() {
        int a = 1;
        int b = 2;
        int neither = 0;
        holds(true, "(aWb)", 1, b, neither);
        holds(false, "(aWb)", 1, neither, b);
        holds(true, "(aWb)", 2, a, b, neither);
        holds(false, "(aWb)", 2, a, neither, b);
        holds(true, "(aWb)", 4, a, a, a, b, neither);
        holds(true, "(aWb)", 0, a);
        holds(true, "(aWb)", 0, a, b);
        holds(false, "(aWb)", 0, neither);
        // Without q it is p for ever; without p it is q at once; with one of them always true nothing fails.
        holds(true, "(aW0)", 0, a);
        holds(false, "(aW0)", 1, a, neither);
        holds(true, "(0Wb)", 1, b, neither);
        holds(false, "(0Wb)", 1, a, b);
        holds(true, "(1Wb)", 0, neither);
        holds(true, "(aW1)", 0, neither);
        states("(0W0)", 0);
        states("(1Wb)", 1);
        states("(aW1)", 1);
    }

    private static void rules() {
        int a = 1;
        int b = 2;
        int both = 3;
        int neither = 0;
        holds(true, "{a}>b", 1, both, neither);
        holds(false, "{a}>b", 1, a, b);
        holds(true, "{a}>b", 1, neither, a);
        holds(true, "{a}:b", 2, a, b, neither);
        holds(false, "{a}:b", 1, both, neither);
        holds(true, "{a}:b", 0, neither, a);
        holds(true, "{a}:b", 0, both);
        holds(false, "{a}:b", 0, a);
        // From each of the cycles, not from the first one alone.
        holds(false, "{a+}>b", 2, both, both, a);
        holds(true, "{a+}>b", 3, both, both, neither, a);
        holds(false, "{a+}:b", 2, both, both, neither);
        holds(true, "{a+}>b", 0, both);
        holds(false, "{a+}:b", 1, both, a);
        // A sequence that can't end asks nothing; one that is begun but not yet at its end neither.
        states("{0}>0", 1);
        states("{a,0}:0", 1);
        holds(true, "{a,a}>0", 1, a, neither);
        holds(false, "{a,a}>0", 1, a, a);
        holds(false, "{1+}>b", 3, b, b, b, neither);
    }

    /** The cycles, of the first ten, at which a sequence ends if a is true in all of them. */
    private static void endsAt(String sequence, int... due) {
        for (int cycle = 0; cycle < 10; cycle++) {
            int[] letters = new int[11];
            java.util.Arrays.fill(letters, 3);
            letters[cycle] = 1;
            boolean ends = false;
            for (int end : due) {
                ends |= end == cycle;
            }
            holds(!ends, "{" + sequence + "}>b", 10, letters);
        }
    }

    private static void ends() {
        endsAt("a", 0);
        endsAt("!a");
        endsAt("a,a", 1);
        endsAt("a,!a,a");
        endsAt("a,a,a,a,a,a,a,a", 7);
        endsAt("[a]", 0);
        endsAt("[a/a,a]", 0, 1);
        endsAt("[!a/a,a,a]", 2);
        endsAt("[!a/!a]");
        endsAt("a*1", 0);
        endsAt("a*2", 1);
        endsAt("a*8", 7);
        endsAt("a*1-1", 0);
        endsAt("a*1-2", 0, 1);
        endsAt("a*2-4", 1, 2, 3);
        endsAt("a*1-8", 0, 1, 2, 3, 4, 5, 6, 7);
        endsAt("a*7-8", 6, 7);
        endsAt("a*8-8", 7);
        endsAt("[a,a]*2-3", 3, 5);
        endsAt("[a/a,a,a]*2", 1, 3, 5);
        endsAt("[a*2-3]*2", 3, 4, 5);
        endsAt("a*2,a*1-2,a", 3, 4);
        endsAt("a+", 0, 1, 2, 3, 4, 5, 6, 7, 8, 9);
        endsAt("a,a+", 1, 2, 3, 4, 5, 6, 7, 8, 9);
        endsAt("[a+]*3", 2, 3, 4, 5, 6, 7, 8, 9);
        endsAt("[a,a,a]+", 2, 5, 8);
        endsAt("[a*2/a*3]+", 1, 2, 3, 4, 5, 6, 7, 8, 9);
        endsAt("!a+,a");
    }

    private static void places() {
        String[] texts = {"{a}>b", "{a,a}>b", "{!!(a&b)}>b", "{[a]}>b", "{[a/a]}>b", "{a+}>b", "{a*1}>b", "{a*1-1}>b",
            "{a*3}>b", "{a*1-3}>b", "{a*3-3}>b", "{[a,b]*3}>c", "{[a/b]*1-3}>c", "{[a*2,b]*2}>c", "{[a*1-2]*2-3}>c",
            "{a}>{b*2}>c", "{0*8}>c", "{a*8-8}>c"};
        int[] due = {1, 2, 1, 1, 2, 1, 1, 1, 3, 3, 3, 6, 6, 6, 6, 3, 8, 8};
        for (int i = 0; i < texts.length; i++) {
            // The whole property is one more obligation.
            size(texts[i], 1, due[i] + 1);
        }
    }

    private static void properties() {
        String[] texts = {"a", "!a", "(a&b)", "(a|b)", "((a&b)|(a&c))", "Ga", "(aWb)", "GGa", "Xa", "XXa", "XGa",
            "GXa", "X(aWb)", "(XaWXb)", "(Xa&Xa)", "(Ga&Gb)", "(Ga|Ga)", "{a}:b", "{a}>b", "{a}:Gb", "{a}>Gb",
            "{a}:Xb", "{a}:(aWb)", "X{a}:b", "{a}:{b}:c"};
        int[] due = {1, 1, 1, 1, 1, 1, 1, 2, 2, 3, 2,
            2, 2, 3, 3, 3, 3, 3, 2, 3, 3,
            4, 3, 4, 5};
        for (int i = 0; i < texts.length; i++) {
            size(texts[i], 1, due[i]);
        }
    }

    private static void tooManyObligations() {
        String eightWs = "(aW".repeat(8) + "b" + ")".repeat(8);
        String[] nine = {"XXXXXXXXa", "GGGGGGGGGa", "G" + eightWs, "(aW" + eightWs + ")", "{a}:{a}:{a}:{a}:b",
            "{a*8}>b", "{a*1-8}>b", "{a,a,a,a,a,a,a,a}>b", "{[a/a/a/a/a/a/a/a]}>b", "{[a,b]*4}>c", "{[a*2]*4}>c",
            "{[a*1-2]*4-4}>c", "{a*4}>{b*4}>c", "X{a*6}:b", "G{a*7}:b", "(Xa&(Xa&(Xa&(Xa&(Xa&(Xa&(Xa&Xa)))))))"};
        for (String text : nine) {
            size(text, 1, 9);
        }
        String[] more = {"XXXXXXXXXa", "GGGGGGGGGGa", "GG" + eightWs, "G(aW" + eightWs + ")", "X{a}:{a}:{a}:{a}:b",
            "{a*9}>b", "{a*1-9}>b", "{a*9-9}>b", "{a,a,a,a,a,a,a,a,a}>b", "{[a/a/a/a/a/a/a/a/a]}>b", "{[a,b]*5}>c",
            "{[a*3]*3}>c", "{[a*1-2]*1-5}>c", "{a*4}>{b*5}>c", "X{a*7}:b", "G{a*8}:b", "X(Xa&(Xa&(Xa&(Xa&(Xa&(Xa&"
            + "(Xa&Xb)))))))", "{0*9}>1", "{[[[[[[[[a*9]*9]*9]*9]*9]*9]*9]*9]*9}>0"};
        for (String text : more) {
            TraceWarden warden = Checks.with(text);
            Checks.due(text, UNSUPPORTED, warden::compile);
            Checks.due(text + " is a property", -1, warden::fault);
        }
    }

    /** How many conditions there are, and how many states of them. */
    private static void conditions(String text, int due, int states) {
        size(text, 2, due);
        states(text, states);
    }

    private static void askedByProperties() {
        // The whole property; that which nothing asks; that which nothing is enough for.
        conditions("a", 3, 2);
        conditions("1", 2, 1);
        conditions("0", 2, 0);
        // And what stands behind the X, or both, or one of the two.
        conditions("Xa", 4, 3);
        conditions("(Xa&Xb)", 4, 3);
        conditions("(Xa|Xb)", 4, 3);
        conditions("(a&Xb)", 4, 3);
        conditions("(a|Xb)", 4, 3);
        // G and W ask themselves again.
        conditions("Ga", 2, 1);
        conditions("G0", 2, 0);
        conditions("G1", 1, 1);
        conditions("(aWb)", 3, 2);
        conditions("(1W0)", 1, 1);
        conditions("(0W1)", 2, 1);
        conditions("XGa", 3, 2);
    }

    private static void askedByPlaces() {
        // A first place asks at once: itself it is never asked, unless it follows.
        conditions("{a}>b", 3, 2);
        conditions("{a}:b", 4, 3);
        conditions("{a+}>b", 4, 2);
        conditions("{a+}:b", 4, 3);
        conditions("{a,b}>c", 4, 3);
        conditions("{a,b}:c", 5, 4);
        conditions("{[a/b],c}:0", 5, 3);
        conditions("{a*1-2}>0", 3, 2);
        conditions("{0}>0", 2, 1);
        conditions("{1}>0", 2, 0);
        conditions("{1}:0", 3, 0);
        conditions("{1,1}:1", 4, 1);
    }

    private static void sameConditions() {
        size("G{a}:b", 2, 3);
        size("(a|b)", 2, 3);
        size("(Ga&Ga)", 2, 3);
        size("(Xa|Xa)", 2, 4);
        size("((aWb)|Gc)", 2, 6);
        // What a greater set of obligations is asked for adds nothing: itself and b, or itself.
        size("G(1|Xb)", 2, 1);
        size("G(a|(a&Xb))", 2, 2);
    }

    private static void tooManyConditions() {
        String[] few = {"G1", "G0", "Ga", "0", "1", "a", "(a|!a)", "X0", "X1", "Xa", "{0}>0"};
        int[] due = {1, 2, 2, 2, 2, 3, 2, 3, 3, 4, 2};
        for (int i = 0; i < few.length; i++) {
            size(few[i], 2, due[i]);
        }
        // With and without the condition that nothing is enough for, and with and without that which nothing asks.
        String[] forty = {"G{a+,c*3,a,1}:c", "G{a,1*3-5}:1", "{b+,[c]*2,[a,a,c]}:Gc", "G((Gb&(!1|c))|{a*3,a+}>Xa)",
            "{a+,c*3,a*2,b+}:1", "{a,b+,a*2,c*3}:a", "{a+}>{b,c,c*1-3,a}:b"};
        int[] states = {39, 1, 20, 20, 1, 39, 25};
        for (int i = 0; i < forty.length; i++) {
            size(forty[i], 2, 40);
            states(forty[i], states[i]);
        }
        String[] more = {"G{b,c*3-5}:a", "{a+,b}:{a*3,c}:a", "{[b,c*3-5]+}>!0", "{c+,b,c*3}:X!b", "G{a,b*3-5}>Gc",
            "XG{c,b*3-5}:!0", "G{a*2,c+,1*3}:b", "G{a,c*2-4}:XX!a", "XG{b,1*3-5}:a"};
        for (String text : more) {
            Checks.due(text, UNSUPPORTED, () -> Checks.with(text).compile());
        }
    }

    private static void failing() {
        String[] none = {"0", "!1", "X0", "XX0", "XXXXXXXX0", "G0", "GX0", "(a&!a)", "X(a&!a)", "(0W0)", "(X0WX0)",
            "{1}>0", "{1}:0", "{1*8}>0", "{1+}:0", "G(a&X!a)", "XG(a&XX!a)", "(Ga&XX!a)",
            "({a}>0&{!a}>0)", "({a}:0&{!a}:0)", "(Xa&X!a)", "{[a/!a]}:X0"};
        for (String text : none) {
            states(text, 0);
        }
        // One letter of eight that leads on is enough.
        for (int open = 0; open < 8; open++) {
            String only = "((" + ((open & 1) != 0 ? "a" : "!a") + "&" + ((open & 2) != 0 ? "b" : "!b") + ")&"
                + ((open & 4) != 0 ? "c" : "!c") + ")";
            TraceWarden once = Checks.compiled("X" + only);
            TraceWarden always = Checks.compiled("GX" + only);
            for (int letter = 0; letter < 8; letter++) {
                int l = letter;
                Checks.due("X" + only + " next " + l, l == open ? 2 : -1, () -> once.next(1, l));
                Checks.due("GX" + only + " next " + l, l == open ? 1 : -1, () -> always.next(1, l));
            }
        }
    }

    private static void sameStates() {
        String[] one = {"1", "X1", "G1", "Ga", "GGa", "GGGGGGGGGa", "(a|!a)", "(Xa|X!a)", "{0}>0", "{a}:1", "{a+}>1",
            "(1Wa)", "(Ga&GGa)", "(Ga|Ga)", "{1+}>a", "G{a,1*3-5}:1", "(aW0)"};
        for (String text : one) {
            states(text, 1);
        }
        String[] two = {"a", "(aWb)", "{a+}>b", "(a&Gb)", "{a}>b", "G(!a|Xb)", "G{a}:b", "XGa", "(Ga&XGa)", "XGXa"};
        int[] due = {2, 2, 2, 2, 2, 2, 2, 2, 1, 3};
        for (int i = 0; i < two.length; i++) {
            states(two[i], due[i]);
        }
        // What is told apart by the ninth letter alone is not one state.
        states("XXXXXXXXa", 10);
        states("{a}>XXXXXXXb", 9);
    }

    private static void numbers() {
        TraceWarden warden = Checks.compiled("({a}:Xb&{b}:c)");
        // 1: nothing more is asked; 2: b behind the next; 3: c; 4: both; 5: b.
        int[][] due = {{1, 2, 3, 4, 1, 2, 3, 4}, {1, 1, 1, 1, 1, 1, 1, 1}, {5, 5, 5, 5, 5, 5, 5, 5},
            {-1, -1, -1, -1, 1, 1, 1, 1}, {-1, -1, -1, -1, 5, 5, 5, 5}, {-1, -1, 1, 1, -1, -1, 1, 1}};
        Checks.due("states", 6, () -> warden.size(0));
        for (int state = 0; state < 6; state++) {
            for (int letter = 0; letter < 8; letter++) {
                int s = state;
                int l = letter;
                Checks.due("next " + s + " " + l, due[s][l], () -> warden.next(s, l));
            }
        }
        TraceWarden either = Checks.compiled("(Gb|Ga)");
        Checks.due("letter 1 is met before letter 2", 1, () -> either.next(0, 1));
        Checks.due("letter 2 is met then", 2, () -> either.next(0, 2));
        Checks.due("letter 3 leads back", 0, () -> either.next(0, 3));
        Checks.due("letter 4 fails and has no number", -1, () -> either.next(0, 4));
        // The first state has number 0 although no letter leads to it again.
        TraceWarden row = Checks.compiled("XXXXXXXXa");
        for (int state = 0; state < 8; state++) {
            int s = state;
            Checks.due("one behind the other " + s, s + 1, () -> row.next(s, 7));
        }
        Checks.due("the last one", 9, () -> row.next(8, 7));
        Checks.due("the last one again", 9, () -> row.next(9, 0));
        Checks.due("the last one fails", -1, () -> row.next(8, 6));
    }

    private static void atOnce() {
        // The contradiction lies ahead, and the alarm comes at the cycle that makes it certain.
        Checks.due("b is asked and can't be", -1, () -> Checks.compiled("{a}:(b&!b)").next(0, 1));
        Checks.due("but not yet without a", 1, () -> Checks.compiled("{a}:(b&!b)").next(0, 0));
        Checks.due("eight cycles ahead", -1, () -> Checks.compiled("{a}>XXXXXXX0").next(0, 1));
        Checks.due("a, and never a behind it", -1, () -> Checks.compiled("(b|G(a&X!a))").next(0, 1));
        Checks.due("saved by b", 1, () -> Checks.compiled("(b|G(a&X!a))").next(0, 2));
        Checks.due("two wishes that bar each other", -1, () -> Checks.compiled("({a}:c&{b}:!c)").next(0, 3));
        Checks.due("one of them alone", 2, () -> Checks.compiled("({a}:c&{b}:!c)").next(0, 1));
        Checks.due("one of two ways is left", 0, () -> Checks.compiled("(Ga|Gb)").next(0, 3));
        Checks.due("the last way is gone", -1, () -> Checks.begun("(Ga|Gb)", 3, 1).step(2));
    }

    private static void noStates() {
        for (String text : new String[] {"0", "G0", "X0", "XXXXXXXX0", "G(a&X!a)"}) {
            TraceWarden warden = Checks.with(text);
            Checks.due(text + " compile", 0, warden::compile);
            Checks.due(text + " size", 0, () -> warden.size(0));
            Checks.due(text + " next", ELEMENT, () -> warden.next(0, 0));
            Checks.due(text + " next of failed", ELEMENT, () -> warden.next(-1, 0));
            Checks.due(text + " ready", "ready 0", () -> Checks.reported(warden));
            Checks.due(text + " begin", false, warden::begin);
            Checks.due(text + " time", 0, warden::time);
            Checks.due(text + " window", 0, warden::window);
            Checks.due(text + " step", STATE, () -> warden.step(0));
            Checks.due(text + " loop", INDEX, () -> warden.loop(0));
            Checks.due(text + " report", "failed 0 by 0", () -> Checks.reported(warden));
        }
    }

    private static final String[] BY_STATES = {"0", "1", "a", "Xa", "XXb", "XXXXXc", "{a+}:XXc", "{a+,b+}:XX!a",
        "(cWXXXXb)", "{a+,c,c+,a*2}:X!b", "G{a}:{b*3}:Xc", "G{a+,c*3,a,1}:c"};
    private static final int[] STATES = {0, 1, 2, 3, 4, 7, 8, 15, 16, 31, 32, 39};
    private static final int[] BITS = {1, 1, 2, 2, 3, 3, 4, 4, 5, 5, 6, 6};

    private static void bits() {
        for (int i = 0; i < BY_STATES.length; i++) {
            String text = BY_STATES[i];
            int bits = BITS[i];
            states(text, STATES[i]);
            TraceWarden warden = Checks.compiled(text);
            Checks.due("bits of " + text, bits, () -> warden.size(3));
            Checks.due("the failed code of " + text, true, () -> warden.output(bits, warden.size(0), 0));
            Checks.due("the highest code of " + text, true, () -> warden.output(bits, (1 << bits) - 1, 7));
            Checks.due("a code above, of " + text, INDEX, () -> warden.output(bits, 1 << bits, 7));
            Checks.due("an output above the alarm, of " + text, INDEX, () -> warden.output(bits + 1, 0, 0));
        }
    }

    private static void inputs() {
        // Each of these counts would be another one if the inputs stood in another order: a and b, b and c, a and c,
        // the signals behind the code, or the code's bits the other way round.
        size("G(b|(a&c))", 4, 5);
        size("G((a&b)|c)", 4, 4);
        size("G(a|(b&c))", 4, 4);
        size("G(!a|Xb)", 4, 9);
        size("{a,[b/c]+}>(bWa)", 4, 33);
        size("XXa", 4, 15);
        size("XXXXXXXXa", 4, 26);
        size("Xa", 4, 8);
    }

    /** The next code, read off the outputs. */
    private static int nextCode(TraceWarden warden, int bits, int code, int letter) {
        int then = 0;
        for (int bit = 0; bit < bits; bit++) {
            then |= warden.output(bit, code, letter) ? 1 << bit : 0;
        }
        return then;
    }

    private static void nextCodes() {
        for (int i = 0; i < BY_STATES.length; i++) {
            String text = BY_STATES[i];
            int k = STATES[i];
            int bits = BITS[i];
            for (int letter = 0; letter < 8; letter++) {
                int l = letter;
                // A new object for each letter: none is used for more than 512 calls.
                TraceWarden warden = Checks.compiled(text);
                for (int code = 0; code < 1 << bits; code++) {
                    int c = code;
                    int state = c < k ? warden.next(c, l) : -1;
                    Checks.due(text + " code " + c + " by " + l, state < 0 ? k : state,
                        () -> nextCode(warden, bits, c, l));
                }
            }
        }
        // By hand: 1 is the state in which all is well, 2 is failed, 3 no code at all.
        TraceWarden a = Checks.compiled("a");
        int[] due = {2, 1, 2, 2};
        for (int code = 0; code < 4; code++) {
            int c = code;
            Checks.due("a, code " + c + " by 0", due[c], () -> nextCode(a, 2, c, 0));
            Checks.due("a, code " + c + " by 7", c == 0 ? 1 : due[c], () -> nextCode(a, 2, c, 7));
        }
    }

    private static void alarm() {
        for (int i = 0; i < BY_STATES.length; i++) {
            String text = BY_STATES[i];
            int bits = BITS[i];
            TraceWarden warden = Checks.compiled(text);
            for (int code = 0; code < 1 << bits; code++) {
                int c = code;
                for (int letter : new int[] {0, 7}) {
                    boolean due = c >= STATES[i] || warden.next(c, letter) < 0;
                    Checks.due(text + " alarm " + c + " by " + letter, due, () -> warden.output(bits, c, letter));
                }
            }
        }
        TraceWarden never = Checks.compiled("1");
        Checks.due("no alarm where nothing fails", false, () -> never.output(1, 0, 0));
        Checks.due("an alarm that stays", true, () -> never.output(1, 1, 0));
        TraceWarden failed = Checks.compiled("0");
        Checks.due("an alarm without states", true, () -> failed.output(1, 0, 0));
    }

    private static void gates() {
        // Both outputs constant; both the code's one bit; two functions, of which each counts once for both outputs.
        size("0", 4, 0);
        size("XXXXXXXX0", 4, 0);
        size("1", 4, 1);
        size("G1", 4, 1);
        size("Ga", 4, 2);
        size("Gc", 4, 2);
        size("G(a|b)", 4, 3);
        size("G(a|(b|c))", 4, 4);
        size("G(a&(b&c))", 4, 4);
        size("a", 4, 8);
        size("{a,b}>0", 4, 11);
        size("G{a+,c*3,a,1}:c", 4, 130);
    }
}
