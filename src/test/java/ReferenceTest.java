/** Texts by chance: what the class makes of them against the reference, and against the meaning itself. */
public final class ReferenceTest {
    private ReferenceTest() {
    }

    public static void main(String[] args) {
        Chance chance = new Chance(7);
        Texts texts = new Texts(chance);
        int compiled = 0;
        for (int i = 0; i < 6000; i++) {
            String text = texts.property();
            compiled += checkMonitor(text, chance) ? 1 : 0;
            checkFault(texts.spoilt(text));
        }
        Checks.same("enough texts were compiled", true, compiled > 3000);
        Checks.finish();
    }

    private static void checkFault(String text) {
        int fault = Reference.faultIn(text);
        TraceWarden warden = Checks.with(text);
        String answer = Checks.answer(warden::compile);
        Checks.same(text + " is no property", fault >= 0, answer.equals("throws.IllegalArgumentException"));
        Checks.due(text + " fault()", fault, warden::fault);
    }

    private static boolean checkMonitor(String text, Chance chance) {
        Checks.same("the reference on " + text, -1, Reference.faultIn(text));
        Reference due = new Reference(text);
        TraceWarden warden = Checks.with(text);
        if (due.next == null) {
            Checks.due(text + " compile()", "throws.UnsupportedOperationException", warden::compile);
            return false;
        }
        int k = due.next.length;
        Checks.due(text + " compile()", k, warden::compile);
        Checks.due(text + " states", k, () -> warden.size(0));
        Checks.due(text + " obligations", due.obligationCount, () -> warden.size(1));
        Checks.due(text + " conditions", due.conditionCount, () -> warden.size(2));
        Checks.due(text + " bits", due.bits, () -> warden.size(3));
        Checks.due(text + " gates", due.gates, () -> warden.size(4));
        for (int letter = 0; letter < 8; letter++) {
            int l = letter;
            for (int state = 0; state < k; state++) {
                int s = state;
                Checks.due(text + " next " + s + " " + l, due.next[s][l], () -> warden.next(s, l));
            }
        }
        for (int i = 0; i < 20; i++) {
            int output = chance.below(due.bits + 1);
            int code = chance.below(1 << due.bits);
            int letter = chance.below(8);
            Checks.due(text + " output " + output + " " + code + " " + letter, due.output(output, code, letter),
                () -> warden.output(output, code, letter));
        }
        for (int i = 0; i < 4; i++) {
            checkRun(text, due, warden, chance);
        }
        return true;
    }

    private static void checkRun(String text, Reference due, TraceWarden warden, Chance chance) {
        Checks.due(text + " begin()", due.next.length > 0, warden::begin);
        int length = 1 + chance.below(12);
        int[] trace = new int[length];
        int state = due.run();
        int had = 0;
        StringBuilder told = new StringBuilder(text);
        while (had < length && state >= 0) {
            int letter = chance.below(8);
            // A run that fails at once tells little: a letter that goes on is taken more often.
            for (int i = 0; i < 3 && due.next[state][letter] < 0; i++) {
                letter = chance.below(8);
            }
            int taken = letter;
            trace[had] = letter;
            had++;
            state = due.next[state][letter];
            told.append(' ').append(letter);
            Checks.due(told + " step", state, () -> warden.step(taken));
        }
        int[] whole = java.util.Arrays.copyOf(trace, had);
        checkEnd(told.toString(), due, warden, whole, state);
    }

    private static void checkEnd(String told, Reference due, TraceWarden warden, int[] trace, int state) {
        int window = -1;
        for (int from = 0; from <= trace.length && state < 0; from++) {
            int[] piece = java.util.Arrays.copyOfRange(trace, from, trace.length);
            window = due.run(piece) < 0 ? piece.length : window;
        }
        Checks.due(told + " window", window, warden::window);
        String words = state < 0 ? "failed " + trace.length + " by " + window : "run " + trace.length + " in " + state;
        Checks.due(told + " report", words, () -> Checks.reported(warden));
        for (int i = 0; i < trace.length; i++) {
            int from = i;
            boolean holds = Reference.holds(due.whole, trace, from, 0);
            Checks.due(told + " loop " + from, holds, () -> warden.loop(from));
        }
    }
}
