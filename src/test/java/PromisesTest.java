/** The document's promises one by one, with answers worked out by hand. */
public final class PromisesTest {
    private static final String STATE = "throws.IllegalStateException";
    private static final String ARGUMENT = "throws.IllegalArgumentException";
    private static final String INDEX = "throws.IndexOutOfBoundsException";
    private static final String ELEMENT = "throws.NoSuchElementException";
    private static final String UNSUPPORTED = "throws.UnsupportedOperationException";
    private static final int[] FAR = {Integer.MIN_VALUE, -2, -1, 8, 9, 100, Integer.MAX_VALUE};

    private PromisesTest() {
    }

    public static void main(String[] args) {
        newObject();
        text();
        wipe();
        compile();
        compileLimits();
        compileThatThrowsChangesNothing();
        fault();
        faultAtDepth();
        faultStays();
        size();
        gates();
        next();
        output();
        begin();
        step();
        time();
        window();
        loop();
        report();
        said();
        Checks.finish();
    }

    private static void newObject() {
        TraceWarden warden = new TraceWarden();
        Checks.due("1: fault", -1, warden::fault);
        Checks.due("1: size", STATE, () -> warden.size(0));
        Checks.due("1: next", STATE, () -> warden.next(0, 0));
        Checks.due("1: output", STATE, () -> warden.output(0, 0, 0));
        Checks.due("1: begin", STATE, warden::begin);
        Checks.due("1: step", STATE, () -> warden.step(0));
        Checks.due("1: loop", STATE, () -> warden.loop(0));
        Checks.due("1: time", -1, warden::time);
        Checks.due("1: window", -1, warden::window);
        Checks.due("1: said", 0, () -> (int) warden.said(0));
        Checks.due("1: report", "none", () -> Checks.reported(warden));
        Checks.due("1: the text is empty", 1, () -> warden.text('a'));
        Checks.due("1: two objects share nothing", 1, () -> new TraceWarden().text('b'));
    }

    private static void text() {
        TraceWarden warden = new TraceWarden();
        Checks.due("2: lowest byte 0", -1, () -> warden.text(0));
        Checks.due("2: lowest byte 0, more behind", -1, () -> warden.text(0x6161616161616100L));
        Checks.due("2: a blank", -1, () -> warden.text(32));
        Checks.due("2: 127", -1, () -> warden.text(127));
        Checks.due("2: 128", -1, () -> warden.text(128));
        Checks.due("2: all bytes 255", -1, () -> warden.text(-1L));
        Checks.due("2: a wrong one as the second", -1, () -> warden.text(0x2061L));
        Checks.due("2: a wrong one as the eighth", -1, () -> warden.text(0x1F61616161616161L));
        Checks.due("2: the eighth below zero", -1, () -> warden.text(0x8061616161616161L));
        Checks.due("2: 33 is the least", 1, () -> warden.text(33));
        Checks.due("2: 126 is the greatest", 2, () -> warden.text(126));
        Checks.due("2: what is behind a zero byte is left out", 3, () -> warden.text(0x20FF0061L));
        Checks.due("2: eight", 11, () -> warden.text(Checks.pack("abcabcab")));
        Checks.due("2: in order", "throws.IllegalArgumentException", warden::compile);
        TraceWarden full = new TraceWarden();
        for (int i = 1; i <= 4; i++) {
            int all = 8 * i;
            Checks.due("2: row " + i, all, () -> full.text(Checks.pack("!!!!!!!!")));
        }
        Checks.due("2: 39", 39, () -> full.text(Checks.pack("!!!!!!!")));
        Checks.due("2: 41 is refused", -1, () -> full.text(Checks.pack("aa")));
        Checks.due("2: 40", 40, () -> full.text(Checks.pack("a")));
        Checks.due("2: one more is refused", -1, () -> full.text(Checks.pack("a")));
        TraceWarden order = Checks.with("G(!a|Xb)");
        Checks.due("2: the lowest byte comes first", 2, order::compile);
    }

    private static void wipe() {
        TraceWarden warden = Checks.begun("Ga", 1);
        warden.report();
        warden.wipe();
        Checks.due("3: the run stays", 1, warden::time);
        Checks.due("3: what was compiled stays", 1, () -> warden.size(0));
        Checks.due("3: what was said stays", 'r', () -> warden.said(0));
        Checks.due("3: the text is empty", ARGUMENT, warden::compile);
        Checks.due("3: nothing is missing before it", 0, warden::fault);
        Checks.due("3: the text begins anew", 1, () -> warden.text('a'));
        warden.wipe();
        warden.wipe();
        Checks.due("3: twice", 1, () -> warden.text('a'));
    }

    private static void compile() {
        String[][] due = {
            // text, states, obligations, conditions
            {"a", "2", "1", "3"}, {"0", "0", "1", "2"}, {"1", "1", "1", "2"}, {"!!a", "2", "1", "3"},
            {"Ga", "1", "1", "2"}, {"G1", "1", "1", "1"}, {"G0", "0", "1", "2"}, {"GGa", "1", "2", "3"},
            {"Xa", "3", "2", "4"}, {"X0", "0", "2", "3"}, {"XGa", "2", "2", "3"}, {"X1", "1", "2", "3"},
            {"(aWb)", "2", "1", "3"}, {"(a&b)", "2", "1", "3"}, {"(Ga|Gb)", "3", "3", "5"},
            {"{a}>b", "2", "2", "3"}, {"{a}:b", "3", "3", "4"}, {"{a,b}>0", "3", "3", "4"},
            {"{a+}>b", "2", "2", "4"}, {"{1+}>b", "1", "2", "3"}, {"{a}:Gb", "3", "3", "4"},
            {"{[a/b]}>c", "2", "3", "3"}, {"{(a&b)}>c", "2", "2", "3"}, {"{0}>0", "1", "2", "2"},
            {"(a&!a)", "0", "1", "2"}, {"{a*1-1}>b", "2", "2", "3"}, {"{a*2}>0", "3", "3", "4"},
        };
        for (String[] row : due) {
            TraceWarden warden = Checks.with(row[0]);
            Checks.due("4: " + row[0], row[1], warden::compile);
            Checks.due("6: states of " + row[0], row[1], () -> warden.size(0));
            Checks.due("6: obligations of " + row[0], row[2], () -> warden.size(1));
            Checks.due("6: conditions of " + row[0], row[3], () -> warden.size(2));
            Checks.due("4: the text stays " + row[0], row[1], warden::compile);
        }
        TraceWarden warden = Checks.begun("Ga", 1);
        warden.compile();
        Checks.due("4: no run then", -1, warden::time);
        Checks.due("4: no run then", "ready 1", () -> Checks.reported(warden));
    }

    private static void compileLimits() {
        Checks.due("4: 9 obligations", 10, () -> Checks.with("XXXXXXXXa").compile());
        Checks.due("4: 10 obligations", UNSUPPORTED, () -> Checks.with("XXXXXXXXXa").compile());
        Checks.due("4: 8 places", 9, () -> Checks.compiled("{a*8}>0").size(1));
        Checks.due("4: 9 places", UNSUPPORTED, () -> Checks.with("{a*9}>0").compile());
        Checks.due("4: 9 obligations by each G and W", 9, () -> Checks.compiled("G(G(GaWGb)W(XaWXb))").size(1));
        Checks.due("4: very many places", UNSUPPORTED, () -> Checks.with("{[[[[[[a*9]*9]*9]*9]*9]*9]*9}>0").compile());
        Checks.due("4: copies of more than one place", UNSUPPORTED, () -> Checks.with("{[a,b]*5}>0").compile());
        Checks.due("4: too many, then more", UNSUPPORTED, () -> Checks.with("{a*9}>{b*9,c*1-2,[a/b+]*3}:c").compile());
        Checks.due("4: 40 conditions", 40, () -> Checks.compiled("G{a,1*3-5}:1").size(2));
        Checks.due("4: 41 conditions", UNSUPPORTED, () -> Checks.with("G{b,c*3-5}:a").compile());
        Checks.due("4: no property is told before too many", ARGUMENT, () -> Checks.with("{a*9}>0)").compile());
    }

    private static void compileThatThrowsChangesNothing() {
        for (String text : new String[] {"", "Gz", "(a&b", "XXXXXXXXXa", "G{b,c*3-5}:a", "{a*9}>0", "{[a,b]*5}>0"}) {
            TraceWarden warden = Checks.begun("G(!a|Xb)", 1, 2);
            int gates = warden.size(4);
            Checks.put(warden, text);
            Checks.same("4: " + text, true, Checks.answer(warden::compile).startsWith("throws."));
            Checks.due("4: states stay, " + text, 2, () -> warden.size(0));
            Checks.due("4: obligations stay, " + text, 2, () -> warden.size(1));
            Checks.due("4: conditions stay, " + text, 3, () -> warden.size(2));
            Checks.due("4: bits stay, " + text, 2, () -> warden.size(3));
            Checks.due("4: gates stay, " + text, gates, () -> warden.size(4));
            Checks.due("4: the table stays, " + text, -1, () -> warden.next(1, 0));
            Checks.due("4: the run stays, " + text, "run 2 in 0", () -> Checks.reported(warden));
            Checks.due("4: the run goes on, " + text, 1, () -> warden.step(1));
            Checks.due("4: and fails, " + text, -1, () -> warden.step(0));
            Checks.due("4: by its own trace, " + text, 2, warden::window);
        }
    }

    private static void fault() {
        Object[][] due = {
            {"", 0}, {"z", 0}, {"d", 0}, {"W", 0}, {")", 0}, {"ab", 1}, {"G", 1}, {"X", 1}, {"!", 1}, {"Gz", 1},
            {"(", 1}, {"(a", 2}, {"(a)", 2}, {"(a&", 3}, {"(a&b", 4}, {"(a&b))", 5}, {"(aXb)", 2}, {"(aWb", 4},
            {"!G", 1}, {"!X", 1}, {"!{", 1}, {"!(aWb)", 3}, {"!(Ga&b)", 2}, {"!(a&Gb)", 4}, {"!(a&b", 5},
            {"{", 1}, {"{}", 1}, {"{a", 2}, {"{a}", 3}, {"{a}a", 3}, {"{a}>", 4}, {"{a}:", 4}, {"{a}>b}", 5},
            {"{Ga}>b", 1}, {"{Xa}>b", 1}, {"{{a}>b}>c", 1}, {"{(aWb)}>c", 3}, {"{a,}>b", 3}, {"{,a}>b", 1},
            {"{a,,b}>b", 3}, {"{a/b}>c", 2}, {"{[a/b}>c", 5}, {"{[]}>c", 2}, {"{[a/]}>c", 4}, {"{[a,b/c]}>", 10},
            {"{a*}>b", 3}, {"{a*0}>b", 3}, {"{a*12}>b", 4}, {"{a*2-}>b", 5}, {"{a*2-1}>b", 5}, {"{a*2-0}>b", 5},
            {"{a*2-33}>b", 6}, {"{a*1-1}>", 8}, {"{a*a}>b", 3}, {"{a-2}>b", 2}, {"{a++}>b", 3}, {"{a+*2}>b", 3},
            {"{a*2+}>b", 4}, {"{a*2-3*2}>b", 6}, {"{*2}>b", 1}, {"{+}>b", 1}, {"{[a]+*2}>b", 5}, {"a+", 1},
            {"a*2", 1}, {"a,b", 1}, {"[a]", 0}, {"(a,b)", 2}, {"G(a|b)c", 6}, {"{a]>b", 2}, {"{[a}>b", 3}, {"2", 0},
            {"{2}>b", 1}, {"{a*9-9}>bb", 9}, {"{a>b", 2}, {"{!}>b", 2}, {"{a*3-2}>b", 5}, {"{[a*3-2]}>b", 6},
        };
        for (Object[] row : due) {
            TraceWarden warden = Checks.with((String) row[0]);
            Checks.due("4: " + row[0], ARGUMENT, warden::compile);
            Checks.due("5: " + row[0], row[1], warden::fault);
        }
        TraceWarden full = Checks.with("{" + "a,".repeat(19) + "a");
        Checks.due("5: 40 characters, and something missing", ARGUMENT, full::compile);
        Checks.due("5: 40 characters, and something missing", 40, full::fault);
    }

    private static void faultAtDepth() {
        String g12 = "G".repeat(12);
        Object[][] due = {
            // -1: no fault, but too many obligations
            {g12 + "a", -1}, {g12 + "Ga", 13}, {g12 + "G", 13}, {g12 + "!a", 13}, {g12 + "!", 13}, {g12, 12},
            {g12 + "(a&b)", 13}, {g12 + "{a}>b", 13}, {g12 + "{", 13}, {g12 + "{}", 13}, {g12 + "z", 12},
            {"G".repeat(11) + "!a", -1}, {"G".repeat(11) + "!!a", 13}, {"G".repeat(11) + "{a}>b", 12},
            {"G".repeat(11) + "{[a]}>b", 13}, {"G".repeat(11) + "{[", 13}, {"G".repeat(10) + "{a}>b", -1},
            {"G".repeat(10) + "{!a}>b", 12}, {"G".repeat(10) + "{[a]}>b", 12}, {"G".repeat(10) + "{(a|b)}>c", 12},
            {"G".repeat(9) + "{[a]}>b", -1}, {"G".repeat(9) + "{[a,b/[a]]}>b", 16}, {"G".repeat(9) + "{[a+/!b]}>b", 15},
            {"G".repeat(9) + "{!a,b}>Xc", -1}, {"G".repeat(11) + "(a&!b)", 15}, {"G".repeat(11) + "(a&b)", -1},
            {"G".repeat(10) + "{a}>!b", -1}, {"G".repeat(10) + "{a}>!!b", 16},
        };
        for (Object[] row : due) {
            TraceWarden warden = Checks.with((String) row[0]);
            boolean fits = row[1].equals(-1);
            Checks.due("4: " + row[0], fits ? UNSUPPORTED : ARGUMENT, warden::compile);
            Checks.due("5: " + row[0], row[1], warden::fault);
        }
        Checks.due("4: twelve deep", 2, () -> Checks.with("!".repeat(12) + "a").compile());
        Checks.due("4: thirteen deep", ARGUMENT, () -> Checks.with("!".repeat(13) + "a").compile());
        Checks.due("4: sequences", 2, () -> Checks.with("{[[[[[[[[[[a]]]]]]]]]]}>b").compile());
        TraceWarden deep = Checks.with("{[[[[[[[[[[[a]]]]]]]]]]]}>b");
        Checks.due("4: sequences too deep", ARGUMENT, deep::compile);
        Checks.due("5: sequences too deep", 12, deep::fault);
    }

    private static void faultStays() {
        TraceWarden warden = Checks.with("Ga");
        warden.compile();
        Checks.due("5: it never did", -1, warden::fault);
        Checks.put(warden, "XXXXXXXXXa");
        Checks.answer(warden::compile);
        Checks.due("5: the other exception", -1, warden::fault);
        Checks.put(warden, "Gab");
        Checks.answer(warden::compile);
        Checks.due("5: told", 2, warden::fault);
        Checks.put(warden, "XXXXXXXXXa");
        Checks.answer(warden::compile);
        Checks.due("5: stays by the other exception", 2, warden::fault);
        Checks.put(warden, "Ga");
        warden.compile();
        Checks.due("5: stays by what compiles", 2, warden::fault);
        Checks.put(warden, "!");
        Checks.due("5: stays until compile()", 2, warden::fault);
        Checks.answer(warden::compile);
        Checks.due("5: the last one", 1, warden::fault);
    }

    private static void size() {
        TraceWarden none = new TraceWarden();
        TraceWarden warden = Checks.compiled("G(!a|Xb)");
        for (int what : new int[] {Integer.MIN_VALUE, -1, 5, 6, Integer.MAX_VALUE}) {
            Checks.due("6: nothing comes first " + what, STATE, () -> none.size(what));
            Checks.due("6: another what " + what, ARGUMENT, () -> warden.size(what));
        }
        Checks.answer(Checks.put(none, "XXXXXXXXXa")::compile);
        Checks.due("6: nothing was compiled still", STATE, () -> none.size(1));
        Object[][] bits = {{"0", 1}, {"G1", 1}, {"a", 2}, {"Xa", 2}, {"XXa", 3}, {"XXXXXa", 3}, {"XXXXXXa", 4},
            {"XXXXXXXXa", 4}, {"{[c+]}>{c,b,c,c*2,c}:!b", 6}};
        for (Object[] row : bits) {
            Checks.due("6: bits of " + row[0], row[1], () -> Checks.compiled((String) row[0]).size(3));
        }
    }

    private static void gates() {
        Object[][] due = {
            {"0", 0}, // the alarm is always on
            {"1", 1}, // code and alarm are both the code itself
            {"Ga", 2}, // on if a is not, else the code: a gate for a, and one for the code
            {"G(a|b)", 3}, {"G(!a|Xb)", 9}, {"{a,[b/c]+}>(bWa)", 33},
        };
        for (Object[] row : due) {
            Checks.due("6: gates of " + row[0], row[1], () -> Checks.compiled((String) row[0]).size(4));
        }
        TraceWarden warden = Checks.compiled("Ga");
        Checks.due("6: gates", 2, () -> warden.size(4));
        Checks.due("6: gates again", 2, () -> warden.size(4));
        Checks.put(warden, "G(a|b)").compile();
        Checks.due("6: gates of the new one", 3, () -> warden.size(4));
    }

    private static void next() {
        TraceWarden warden = Checks.compiled("G(!a|Xb)");
        int[][] due = {{0, 1, 0, 1, 0, 1, 0, 1}, {-1, -1, 0, 1, -1, -1, 0, 1}};
        for (int state = 0; state < 2; state++) {
            for (int letter = 0; letter < 8; letter++) {
                int s = state;
                int l = letter;
                Checks.due("7: " + s + " by " + l, due[s][l], () -> warden.next(s, l));
            }
        }
        for (int far : FAR) {
            Checks.due("7: letter " + far, ELEMENT, () -> warden.next(0, far));
            Checks.due("7: state " + far, ELEMENT, () -> warden.next(far, 0));
            Checks.due("7: nothing compiled " + far, STATE, () -> new TraceWarden().next(far, far));
        }
        Checks.due("7: state 2 of 2", ELEMENT, () -> warden.next(2, 0));
        Checks.due("7: no states", ELEMENT, () -> Checks.compiled("0").next(0, 0));
    }

    private static void output() {
        TraceWarden warden = Checks.compiled("G(!a|Xb)");
        for (int code = 0; code < 4; code++) {
            for (int letter = 0; letter < 8; letter++) {
                int c = code;
                int l = letter;
                int state = c < 2 ? warden.next(c, l) : -1;
                int then = state < 0 ? 2 : state;
                Checks.due("8: bit 0 of " + c + " by " + l, (then & 1) != 0, () -> warden.output(0, c, l));
                Checks.due("8: bit 1 of " + c + " by " + l, (then & 2) != 0, () -> warden.output(1, c, l));
                Checks.due("8: alarm of " + c + " by " + l, then == 2, () -> warden.output(2, c, l));
            }
        }
        for (int far : FAR) {
            Checks.due("8: output " + far, INDEX, () -> warden.output(far, 0, 0));
            Checks.due("8: code " + far, INDEX, () -> warden.output(0, far, 0));
            Checks.due("8: letter " + far, INDEX, () -> warden.output(0, 0, far));
            Checks.due("8: nothing compiled " + far, STATE, () -> new TraceWarden().output(far, far, far));
        }
        Checks.due("8: output above the alarm", INDEX, () -> warden.output(3, 0, 0));
        Checks.due("8: code above all", INDEX, () -> warden.output(0, 4, 0));
        TraceWarden failing = Checks.compiled("0");
        Checks.due("8: no states, bit 0", false, () -> failing.output(0, 0, 0));
        Checks.due("8: no states, alarm", true, () -> failing.output(1, 0, 0));
        Checks.due("8: no states, code 1", true, () -> failing.output(1, 1, 7));
        Checks.due("8: no states, code 2", INDEX, () -> failing.output(1, 2, 7));
    }

    private static void begin() {
        TraceWarden warden = Checks.compiled("G(!a|Xb)");
        Checks.due("9: no run before", -1, warden::time);
        Checks.due("9: begins", true, warden::begin);
        Checks.due("9: before cycle 0", "run 0 in 0", () -> Checks.reported(warden));
        warden.step(1);
        Checks.due("9: begins anew", true, warden::begin);
        Checks.due("9: in state 0", 0, () -> warden.step(0));
        warden.step(1);
        warden.step(0);
        Checks.due("9: after a failed one", true, warden::begin);
        Checks.due("9: which is forgotten", "run 0 in 0", () -> Checks.reported(warden));
        TraceWarden failing = Checks.compiled("X0");
        Checks.due("9: failed at once", false, failing::begin);
        Checks.due("9: failed at once, told", "failed 0 by 0", () -> Checks.reported(failing));
        Checks.due("9: nothing was compiled", STATE, () -> new TraceWarden().begin());
    }

    private static void step() {
        TraceWarden warden = Checks.compiled("(aW{b}:c)");
        Checks.due("10: no run", STATE, () -> warden.step(0));
        Checks.due("10: no run comes first", STATE, () -> warden.step(8));
        warden.begin();
        for (int far : FAR) {
            Checks.due("10: letter " + far, ARGUMENT, () -> warden.step(far));
        }
        Checks.due("10: refused letters are no cycles", 0, warden::time);
        TraceWarden full = Checks.compiled("G(!a|Xb)");
        full.begin();
        for (int i = 0; i < 60; i++) {
            Checks.due("10: cycle " + i, 1, () -> full.step(3));
        }
        Checks.due("10: after 60 cycles", STATE, () -> full.step(3));
        Checks.due("10: after 60 cycles, also for a wrong letter", STATE, () -> full.step(8));
        Checks.due("10: 60 cycles", 60, full::time);
        TraceWarden failed = Checks.begun("Ga", 1);
        Checks.due("10: fails", -1, () -> failed.step(6));
        Checks.due("10: has failed", STATE, () -> failed.step(1));
        Checks.due("10: has failed, also for a wrong letter", STATE, () -> failed.step(-1));
        Checks.due("10: failed at once", STATE, () -> Checks.begun("0").step(0));
        TraceWarden late = Checks.begun("G(!a|Xb)");
        for (int i = 0; i < 59; i++) {
            late.step(3);
        }
        Checks.due("10: fails in the last cycle", -1, () -> late.step(0));
        Checks.due("10: fails in the last cycle, told", "failed 60 by 2", () -> Checks.reported(late));
    }

    private static void time() {
        TraceWarden warden = Checks.compiled("Ga");
        Checks.due("11: no run", -1, warden::time);
        warden.begin();
        Checks.due("11: begun", 0, warden::time);
        warden.step(1);
        Checks.due("11: one", 1, warden::time);
        warden.step(0);
        Checks.due("11: the failing one counts", 2, warden::time);
        warden.compile();
        Checks.due("11: none again", -1, warden::time);
    }

    private static void window() {
        Checks.due("12: no run", -1, () -> Checks.compiled("Ga").window());
        Checks.due("12: not failed", -1, () -> Checks.begun("Ga", 1, 1).window());
        Checks.due("12: the last one alone", 1, () -> Checks.begun("Ga", 1, 1, 0).window());
        Checks.due("12: two", 2, () -> Checks.begun("G(!a|Xb)", 0, 1, 3, 3, 0).window());
        Checks.due("12: all", 9, () -> Checks.begun("XXXXXXXXa", 1, 1, 1, 1, 1, 1, 1, 1, 0).window());
        Checks.due("12: none needed", 0, () -> Checks.begun("G0").window());
        // By a at once: b at the last cycle; by no a: c next. The piece of three has failed before its last cycle.
        TraceWarden early = Checks.begun("({a}>XXXb&{!a}>Xc)", 1, 0, 1, 0);
        Checks.due("12: a piece that fails before its end fails", 3, early::window);
        Checks.due("12: and is told so", "failed 4 by 3", () -> Checks.reported(early));
    }

    private static void loop() {
        TraceWarden warden = Checks.begun("G(!a|Xb)", 0, 1, 2);
        Checks.due("13: all again", true, () -> warden.loop(0));
        Checks.due("13: a then b", true, () -> warden.loop(1));
        Checks.due("13: b for ever", true, () -> warden.loop(2));
        Checks.due("13: behind the run", INDEX, () -> warden.loop(3));
        warden.step(1);
        Checks.due("13: a, then not b", false, () -> warden.loop(0));
        Checks.due("13: a, then a and not b", false, () -> warden.loop(1));
        Checks.due("13: a, then b", true, () -> warden.loop(2));
        Checks.due("13: a for ever", false, () -> warden.loop(3));
        for (int far : FAR) {
            Checks.due("13: from " + far, INDEX, () -> warden.loop(far));
            Checks.due("13: no run " + far, STATE, () -> Checks.compiled("Ga").loop(far));
        }
        Checks.due("13: the run stays", "run 4 in 1", () -> Checks.reported(warden));
        Checks.due("13: failed", false, () -> Checks.begun("Ga", 1, 0).loop(0));
        Checks.due("13: no cycles", INDEX, () -> Checks.begun("Ga").loop(0));
        Checks.due("13: failed at once", INDEX, () -> Checks.begun("0").loop(0));
        Checks.due("13: fails after many rounds", false, () -> Checks.begun("XXXXXXXa", 0).loop(0));
        Checks.due("13: holds in the eighth cycle", true, () -> Checks.begun("XXXXXXXa", 1, 1, 0).loop(1));
        Checks.due("13: fails in the eighth cycle", false, () -> Checks.begun("XXXXXXXa", 1, 0, 1).loop(1));
    }

    private static void report() {
        TraceWarden warden = new TraceWarden();
        Checks.due("14: none", 4, warden::report);
        Checks.put(warden, "(Ga|Gb)").compile();
        Checks.due("14: ready", "ready 3", () -> Checks.reported(warden));
        warden.begin();
        Checks.due("14: run", "run 0 in 0", () -> Checks.reported(warden));
        warden.step(1);
        Checks.due("14: run on", "run 1 in 1", () -> Checks.reported(warden));
        for (int i = 0; i < 10; i++) {
            warden.step(3);
        }
        Checks.due("14: two digits", "run 11 in 1", () -> Checks.reported(warden));
        warden.step(2);
        Checks.due("14: failed", "failed 12 by 12", () -> Checks.reported(warden));
        Checks.put(warden, "X0").compile();
        Checks.due("14: no states", "ready 0", () -> Checks.reported(warden));
        Checks.put(warden, "XXXXXXXXa").compile();
        Checks.due("14: ten states", "ready 10", () -> Checks.reported(warden));
    }

    private static void said() {
        TraceWarden warden = Checks.begun("Ga", 1);
        Checks.due("15: nothing written", 0, () -> (int) warden.said(0));
        warden.report();
        Checks.due("15: the first", 'r', () -> warden.said(0));
        Checks.due("15: the last", '0', () -> warden.said(9));
        for (int far : new int[] {Integer.MIN_VALUE, -1, 10, 11, Integer.MAX_VALUE}) {
            Checks.due("15: " + far, 0, () -> (int) warden.said(far));
        }
        warden.step(0);
        Checks.due("15: what was written last stays", 'r', () -> warden.said(0));
        warden.report();
        Checks.due("15: a longer one", 'f', () -> warden.said(0));
        warden.compile();
        warden.report();
        Checks.due("15: a shorter one", '1', () -> warden.said(6));
        Checks.due("15: nothing of the longer one is left", 0, () -> (int) warden.said(7));
    }
}
