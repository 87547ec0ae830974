import java.util.Arrays;

/** Rows of 512 calls with any arguments, each answer against a plain model of what an object is. */
public final class CallsTest {
    private static final int[] EDGES = {Integer.MIN_VALUE, -1, 0, 1, 2, 3, 4, 5, 6, 7, 8, 9, 59, 60, 61, 63, 64,
        Integer.MAX_VALUE};

    private final Chance chance;
    private final Texts texts;
    private final TraceWarden warden = new TraceWarden();
    private final StringBuilder told = new StringBuilder();

    // The model.
    private String text = "";
    private int fault = -1;
    private Reference compiled = null;
    private int[] trace = null;
    private String said = "";

    /** What is still to be put in, so that texts are more often properties than by chance alone. */
    private String pending = "";

    private CallsTest(Chance chance) {
        this.chance = chance;
        texts = new Texts(chance);
    }

    public static void main(String[] args) {
        Chance chance = new Chance(23);
        for (int i = 0; i < 300; i++) {
            CallsTest row = new CallsTest(chance);
            for (int call = 0; call < 512; call++) {
                row.call();
            }
        }
        Checks.finish();
    }

    private int any() {
        return chance.oneIn(3) ? EDGES[chance.below(EDGES.length)] : chance.below(8);
    }

    private void check(String call, Object want, java.util.concurrent.Callable<?> made) {
        String got = Checks.answer(made);
        told.append(call).append('=').append(got).append(' ');
        boolean right = got.equals(String.valueOf(want));
        String before = told.length() > 400 ? told.substring(told.length() - 400) : told.toString();
        Checks.same(right ? call : before + call, want, got);
    }

    private void call() {
        int way = chance.below(40);
        if (way < 7) {
            callText();
        } else if (way < 8) {
            warden.wipe();
            text = "";
            pending = chance.oneIn(4) ? texts.spoilt(texts.property()) : texts.property();
        } else if (way < 11) {
            callCompile();
        } else if (way < 16) {
            callTables();
        } else if (way < 18) {
            check("begin", compiled == null ? "throws.IllegalStateException" : compiled.next.length > 0, warden::begin);
            trace = compiled == null ? trace : new int[0];
        } else if (way < 30) {
            callStep();
        } else {
            callQuestions();
        }
    }

    private void callText() {
        long s = chance.oneIn(12) ? (long) chance.below(1 << 30) * chance.below(1 << 30) : 0;
        int most = 1 + chance.below(8);
        if (s == 0 && !pending.isEmpty()) {
            String piece = pending.substring(0, Math.min(most, pending.length()));
            pending = pending.substring(piece.length());
            s = Checks.pack(piece);
        }
        StringBuilder more = new StringBuilder();
        boolean right = true;
        for (int i = 0; i < 8; i++) {
            int c = (int) (s >>> 8 * i & 255);
            if (c == 0) {
                break;
            }
            right &= c >= 33 && c <= 126;
            more.append((char) c);
        }
        right &= more.length() > 0 && text.length() + more.length() <= 40;
        text += right ? more : "";
        long put = s;
        check("text(" + s + ")", right ? text.length() : -1, () -> warden.text(put));
    }

    private void callCompile() {
        int faultNow = Reference.faultIn(text);
        if (faultNow >= 0) {
            fault = faultNow;
            check("compile " + text, "throws.IllegalArgumentException", warden::compile);
            return;
        }
        Reference now = new Reference(text);
        if (now.next == null) {
            check("compile " + text, "throws.UnsupportedOperationException", warden::compile);
            return;
        }
        compiled = now;
        trace = null;
        check("compile " + text, now.next.length, warden::compile);
    }

    private void callTables() {
        int x = any();
        int y = any();
        int z = any();
        boolean none = compiled == null;
        int k = none ? 0 : compiled.next.length;
        boolean letter = z >= 0 && z < 8;
        switch (chance.below(3)) {
            case 0:
                Object size = none ? "throws.IllegalStateException" : x < 0 || x > 4 ? "throws.IllegalArgumentException"
                    : sizes()[x];
                check("size(" + x + ")", size, () -> warden.size(x));
                break;
            case 1:
                Object next = none ? "throws.IllegalStateException" : x < 0 || x >= k || !letter
                    ? "throws.NoSuchElementException" : compiled.next[x][z];
                check("next(" + x + "," + z + ")", next, () -> warden.next(x, z));
                break;
            default:
                Object output = none ? "throws.IllegalStateException" : x < 0 || x > compiled.bits || y < 0
                    || y >= 1 << compiled.bits || !letter ? "throws.IndexOutOfBoundsException"
                    : compiled.output(x, y, z);
                check("output(" + x + "," + y + "," + z + ")", output, () -> warden.output(x, y, z));
                break;
        }
    }

    private int[] sizes() {
        return new int[] {compiled.next.length, compiled.obligationCount, compiled.conditionCount, compiled.bits,
            compiled.gates};
    }

    private int state() {
        return compiled.run(trace);
    }

    private void callStep() {
        int drawn = chance.oneIn(20) ? any() : chance.below(8);
        if (trace != null && drawn >= 0 && drawn < 8 && state() >= 0) {
            for (int i = 0; i < 12 && compiled.next[state()][drawn] < 0; i++) {
                drawn = chance.below(8);
            }
        }
        int letter = drawn;
        Object want;
        if (trace == null || state() < 0 || trace.length >= 60) {
            want = "throws.IllegalStateException";
        } else if (letter < 0 || letter >= 8) {
            want = "throws.IllegalArgumentException";
        } else {
            trace = Arrays.copyOf(trace, trace.length + 1);
            trace[trace.length - 1] = letter;
            want = state();
        }
        check("step(" + letter + ")", want, () -> warden.step(letter));
    }

    private int window() {
        if (trace == null || state() >= 0) {
            return -1;
        }
        for (int piece = 0;; piece++) {
            if (compiled.run(Arrays.copyOfRange(trace, trace.length - piece, trace.length)) < 0) {
                return piece;
            }
        }
    }

    private void callQuestions() {
        int x = any();
        switch (chance.below(6)) {
            case 0:
                check("fault", fault, warden::fault);
                break;
            case 1:
                check("time", trace == null ? -1 : trace.length, warden::time);
                break;
            case 2:
                check("window", window(), warden::window);
                break;
            case 3:
                int from = trace != null && trace.length > 0 && chance.oneIn(2) ? chance.below(trace.length) : x;
                Object loop = trace == null ? "throws.IllegalStateException" : from < 0 || from >= trace.length
                    ? "throws.IndexOutOfBoundsException" : Reference.holds(compiled.whole, trace, from, 0);
                check("loop(" + from + ")", loop, () -> warden.loop(from));
                break;
            case 4:
                said = compiled == null ? "none" : trace == null ? "ready " + compiled.next.length
                    : state() < 0 ? "failed " + trace.length + " by " + window()
                    : "run " + trace.length + " in " + state();
                check("report " + said, said.length(), warden::report);
                break;
            default:
                int i = chance.oneIn(2) ? chance.below(16) : x;
                check("said(" + i + ")", i >= 0 && i < said.length() ? said.charAt(i) : (char) 0, () -> warden.said(i));
                break;
        }
    }
}
