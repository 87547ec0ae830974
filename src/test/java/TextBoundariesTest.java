/** Which texts are properties: each sentence of the terms that names a boundary, with a test of its own. */
public final class TextBoundariesTest {
    private static final String ARGUMENT = "throws.IllegalArgumentException";
    private static final String INDEX = "throws.IndexOutOfBoundsException";
    private static final String ELEMENT = "throws.NoSuchElementException";
    private static final String PROPERTY_BEGINS = "GX{(abc01!";
    private static final String BOOLEAN_BEGINS = "(abc01!";
    private static final String SEQUENCE_BEGINS = "[(abc01!";

    private TextBoundariesTest() {
    }

    public static void main(String[] args) {
        Sentences sentences = new Sentences();
        sentences.of("Terms");
        sentences.test("What they are in a CYCLE is a LETTER 0 .. 7: bit 0 is a, bit 1 b, bit 2 c.",
            TextBoundariesTest::letters);
        sentences.test("TEXT, at most 40 characters, no blanks.", TextBoundariesTest::fullText);
        sentences.test("property: G property; X property; { sequence } > property; { sequence } : property; "
            + "( property & property ), ( property | property ), ( property W property ); a, b, c, 0, 1; ! boolean.",
            TextBoundariesTest::properties);
        sentences.test("boolean: a, b, c, 0, 1; ! boolean; ( boolean & boolean ), ( boolean | boolean ).",
            TextBoundariesTest::booleans);
        sentences.test("sequence: terms with , between.", TextBoundariesTest::sequences);
        sentences.test("term: a unit; a unit, * and a digit m, 1 .. 9; this, - and a digit n, m .. 9; a unit and +.",
            TextBoundariesTest::terms);
        sentences.test("unit: a boolean; [ sequences with / between ].", TextBoundariesTest::units);
        sentences.test("The whole property is 0 DEEP, any property, boolean or sequence within another one 1 deeper "
            + "than that;", TextBoundariesTest::depths);
        sentences.test("none is more than 12 deep: the first character of one that would be can't stand there.",
            TextBoundariesTest::tooDeep);
        Checks.finish();
    }

    private static void letters() {
        String[] signals = {"Ga", "Gb", "Gc"};
        for (int bit = 0; bit < 3; bit++) {
            TraceWarden warden = Checks.begun(signals[bit]);
            for (int letter = 0; letter < 8; letter++) {
                int l = letter;
                int due = (letter >> bit & 1) != 0 ? 0 : -1;
                Checks.due(signals[bit] + " next " + l, due, () -> warden.next(0, l));
                Checks.due(signals[bit] + " alarm " + l, due < 0, () -> warden.output(1, 0, l));
                Checks.due(signals[bit] + " step " + l, due, () -> warden.step(l));
                warden.begin();
            }
            for (int letter : new int[] {Integer.MIN_VALUE, -8, -1, 8, 15, 256, Integer.MAX_VALUE}) {
                Checks.due(signals[bit] + " next " + letter, ELEMENT, () -> warden.next(0, letter));
                Checks.due(signals[bit] + " output " + letter, INDEX, () -> warden.output(0, 0, letter));
                Checks.due(signals[bit] + " step " + letter, ARGUMENT, () -> warden.step(letter));
            }
        }
    }

    private static void fullText() {
        String full = "(" + "!".repeat(11) + "c|(" + "!".repeat(10) + "a|" + "!".repeat(10) + "b))";
        Checks.same("length", 40, full.length());
        TraceWarden warden = Checks.with(full);
        Checks.due("one more character", -1, () -> warden.text('a'));
        Checks.due("40 characters are compiled", 2, warden::compile);
        Checks.due("c alone fails", -1, () -> warden.next(0, 4));
        Checks.due("c with a doesn't", 1, () -> warden.next(0, 5));
        Checks.due("c with b doesn't", 1, () -> warden.next(0, 6));
        TraceWarden shorter = Checks.with(full.substring(0, 39));
        Checks.due("39 of them are no property", ARGUMENT, shorter::compile);
        Checks.due("the last one is missing", 39, shorter::fault);
        for (int blank : new int[] {9, 10, 13, 32}) {
            TraceWarden empty = new TraceWarden();
            Checks.due("blank " + blank, -1, () -> empty.text(blank));
            Checks.due("blank " + blank + " behind a G", -1, () -> empty.text('G' | (long) blank << 8 | 'a' << 16));
            Checks.due("nothing was put in", 1, () -> empty.text('a'));
        }
    }

    /** Whether just these characters, of all that a text may have, can stand behind a beginning. */
    private static void goesOnWith(String beginning, String characters) {
        for (char c = 33; c <= 126; c++) {
            String text = beginning + c;
            TraceWarden warden = Checks.with(text);
            boolean refused = Checks.answer(warden::compile).equals(ARGUMENT);
            if (characters.indexOf(c) < 0) {
                Checks.same(text + " is refused", true, refused);
                Checks.due(text + " fault", beginning.length(), warden::fault);
            } else {
                Checks.due(text + " fault", refused ? text.length() : -1, warden::fault);
            }
        }
    }

    private static void states(String text, int due) {
        Checks.due("states of " + text, due, () -> Checks.with(text).compile());
    }

    private static void missing(String text) {
        TraceWarden warden = Checks.with(text);
        Checks.due(text, ARGUMENT, warden::compile);
        Checks.due(text + ", something is missing", text.length(), warden::fault);
    }

    private static void properties() {
        String[] beginnings = {"", "G", "X", "(", "(a&", "(a|", "(aW", "(Ga&", "{a}>", "{a}:"};
        for (String beginning : beginnings) {
            missing(beginning);
            goesOnWith(beginning, PROPERTY_BEGINS);
        }
        for (String beginning : new String[] {"(a", "(Ga", "((aWb)", "({a}>b", "(!a"}) {
            missing(beginning);
            goesOnWith(beginning, "&|W");
        }
        for (String beginning : new String[] {"(a&b", "(a|b", "(aWb", "(a&Gb", "(aW(aWb)"}) {
            missing(beginning);
            goesOnWith(beginning, ")");
        }
        for (String beginning : new String[] {"{a}", "{a+}", "{[a]}", "{a*1-1}", "G{a,b}"}) {
            missing(beginning);
            goesOnWith(beginning, ">:");
        }
        // Behind a whole property nothing can stand.
        for (String whole : new String[] {"a", "b", "c", "0", "1", "!a", "Ga", "Xa", "(aWb)", "{a}>b", "{a}:b"}) {
            Checks.due(whole + " is one", -1, () -> Checks.compiled(whole).fault());
            goesOnWith(whole, "");
        }
        states("(GaWXb)", 5);
        states("({a}>b&{a}:b)", 3);
    }

    private static void booleans() {
        for (String beginning : new String[] {"!", "!!", "!(", "!(a&", "!(a|", "{(", "{!", "{(a&", "{a,!"}) {
            missing(beginning);
            goesOnWith(beginning, BOOLEAN_BEGINS);
        }
        // No W within a boolean, and no property but a boolean.
        for (String beginning : new String[] {"!(a", "!(!a", "!((a&b)", "{(a", "{!(a", "{(1"}) {
            missing(beginning);
            goesOnWith(beginning, "&|");
        }
        for (String beginning : new String[] {"!(a&b", "!(a|b", "{(a&b", "{(a|!b"}) {
            missing(beginning);
            goesOnWith(beginning, ")");
        }
        states("!(a&b)", 2);
        states("!!((a|b)&!(0|1))", 0);
    }

    private static void sequences() {
        for (String beginning : new String[] {"{", "{a,", "{a,b,", "{a+,", "{a*2,", "{[a],", "{[", "{[a/", "{[a,"}) {
            missing(beginning);
            goesOnWith(beginning, SEQUENCE_BEGINS);
        }
        goesOnWith("{a,b", ",*+}");
        goesOnWith("{a,b+", ",}");
        states("{a}>0", 2);
        states("{a,b}>0", 3);
        states("{a,a,a,a,a,a,a,a}>0", 9);
    }

    private static void terms() {
        for (String beginning : new String[] {"{a", "{!a", "{(a&b)", "{[a]", "{a,b", "{[a/b]"}) {
            goesOnWith(beginning, ",*+}");
        }
        for (String beginning : new String[] {"{a*", "{[a]*", "{[a*"}) {
            missing(beginning);
            goesOnWith(beginning, "123456789");
        }
        for (int m = 1; m <= 9; m++) {
            goesOnWith("{a*" + m, "-,}");
            missing("{a*" + m + "-");
            goesOnWith("{a*" + m + "-", "123456789".substring(m - 1));
            goesOnWith("{a*" + m + "-" + 9, ",}");
        }
        goesOnWith("{a*4-4", ",}");
        goesOnWith("{a+", ",}");
        goesOnWith("{[a]+", ",}");
        goesOnWith("{[a*2-3", ",/]");
        states("{a*1}>b", 2);
        states("{a*1-1}>b", 2);
        states("{a*8}>b", 9);
        states("{a*8-8}>b", 9);
        states("{a*1-8}>b", 9);
    }

    private static void units() {
        for (String beginning : new String[] {"{[a", "{[a/b", "{[a,b/c", "{[!a"}) {
            missing(beginning);
            goesOnWith(beginning, ",*+/]");
        }
        goesOnWith("{[[a]", ",*+/]");
        goesOnWith("{[a+", ",/]");
        // Sequences with / between stand in brackets alone.
        goesOnWith("{a,b", ",*+}");
        states("{[a]}>b", 2);
        states("{[a/b]}>c", 2);
        states("{[a/b/c/0/1/a/b/c]}>0", 0);
        states("{[[a]]}>b", 2);
    }

    /** A text that is just 12 deep is compiled; with a ! put in before a place it is too deep behind that. */
    private static void depth(String text, int states, int place) {
        states(text, states);
        TraceWarden deeper = Checks.with(text.substring(0, place) + "!" + text.substring(place));
        Checks.due(text + " and deeper", ARGUMENT, deeper::compile);
        Checks.due(text + " and deeper, fault", place + 1, deeper::fault);
    }

    private static void depths() {
        depth("!".repeat(12) + "a", 2, 12);
        depth("X".repeat(8) + "!!!!a", 10, 12);
        depth("G".repeat(9) + "!!!a", 1, 12);
        depth("(a&".repeat(6) + "!!!!!!a" + ")".repeat(6), 2, 24);
        depth("(a|".repeat(6) + "!!!!!!a" + ")".repeat(6), 2, 24);
        depth("(aW".repeat(6) + "!!!!!!a" + ")".repeat(6), 2, 24);
        depth("(".repeat(6) + "!!!!!!a" + "&b)".repeat(6), 2, 12);
        depth("(".repeat(6) + "!!!!!!a" + "Wa)".repeat(6), 2, 12);
        depth("{a}>".repeat(8) + "!!!!b", 2, 36);
        depth("{a}:".repeat(4) + "!".repeat(8) + "b", 6, 24);
        depth("{!!!!!!!!!!a}>b", 2, 11);
        depth("!" + "(a&".repeat(5) + "!!!!!!b" + ")".repeat(5), 2, 22);
        depth("!" + "(".repeat(5) + "!!!!!!b" + "|a)".repeat(5), 2, 12);
        depth("{" + "[a/".repeat(3) + "!!!!!!!b]]]}>c", 2, 17);
        depth("{a,b,!!!!!!!!!!a}>b", 4, 15);
        depth("{a+,[c*2,!!!!!!!!!a]}>b", 8, 18);
        depth("{" + "[".repeat(9) + "!a" + "]".repeat(9) + "}>b", 2, 11);
        depth("(!!!!!!!!!!!a|(!!!!!!!!!!a|b))", 1, 12);
        depth("(!!!!!!!!!!!a|(!!!!!!!!!!a|b))", 1, 25);
        states("{" + "[".repeat(10) + "a" + "]".repeat(10) + "}>b", 2);
    }

    private static void tooDeep() {
        String g10 = "G".repeat(10);
        // What begins at a depth of 12 can stand, whatever it is; of 13, nothing can.
        goesOnWith(g10 + "GG", PROPERTY_BEGINS);
        goesOnWith(g10 + "GGG", "");
        goesOnWith(g10 + "GGX", "");
        goesOnWith(g10 + "GG(", "");
        goesOnWith(g10 + "GG!", "");
        goesOnWith(g10 + "GG{", "");
        goesOnWith(g10 + "G!", BOOLEAN_BEGINS);
        goesOnWith(g10 + "G!!", "");
        goesOnWith(g10 + "G!(", "");
        goesOnWith(g10 + "G(", PROPERTY_BEGINS);
        goesOnWith(g10 + "G(a&", PROPERTY_BEGINS);
        goesOnWith(g10 + "G(a&!", "");
        goesOnWith(g10 + "G(aWG", "");
        // A sequence that is 12 deep has no room for a boolean, but for a [ of its own.
        goesOnWith(g10 + "G{", "[");
        goesOnWith(g10 + "G{[", "");
        goesOnWith(g10 + "{", SEQUENCE_BEGINS);
        goesOnWith(g10 + "{!", "");
        goesOnWith(g10 + "{(", "");
        goesOnWith(g10 + "{[", "[");
        goesOnWith(g10 + "{a,", SEQUENCE_BEGINS);
        goesOnWith(g10 + "{a}>", PROPERTY_BEGINS);
        goesOnWith(g10 + "{a}>G", PROPERTY_BEGINS);
        goesOnWith(g10 + "{a}>GG", "");
        goesOnWith(g10 + "{a}:X!", "");
        goesOnWith("(".repeat(12), PROPERTY_BEGINS);
        goesOnWith("(".repeat(13), "");
        goesOnWith("{" + "[".repeat(10), SEQUENCE_BEGINS);
        goesOnWith("{" + "[".repeat(11), "[");
        goesOnWith("{" + "[".repeat(12), "");
        goesOnWith("{" + "(".repeat(10), BOOLEAN_BEGINS);
        goesOnWith("{" + "(".repeat(11), "");
    }
}
