import java.util.Objects;
import java.util.concurrent.Callable;

/** What the tests share: putting texts in, telling answers as words, and counting those that are not as due. */
final class Checks {
    private static int wrong = 0;
    private static int made = 0;
    /** What all answers from now on are asked for. */
    private static String about = "";

    private Checks() {
    }

    static void about(String words) {
        about = words;
    }

    static int made() {
        return made;
    }

    static void due(String what, Object want, Callable<?> call) {
        same(what, want, answer(call));
    }

    static void same(String what, Object want, Object got) {
        made++;
        if (!Objects.equals(String.valueOf(want), String.valueOf(got))) {
            wrong++;
            if (wrong <= 50) {
                System.out.println(about + what + " answered " + got + ", due is " + want);
            }
        }
    }

    /** The answer as a word; an exception by the name of its very class, so that no class below it passes for it. */
    static String answer(Callable<?> call) {
        try {
            return String.valueOf(call.call());
        } catch (Throwable thrown) {
            return "throws." + thrown.getClass().getSimpleName();
        }
    }

    static long pack(String characters) {
        long s = 0;
        for (int i = characters.length() - 1; i >= 0; i--) {
            s = s << 8 | characters.charAt(i);
        }
        return s;
    }

    /** Makes the text of an object the given one. */
    static TraceWarden put(TraceWarden warden, String text) {
        warden.wipe();
        for (int i = 0; i < text.length(); i += 8) {
            warden.text(pack(text.substring(i, Math.min(i + 8, text.length()))));
        }
        return warden;
    }

    static TraceWarden with(String text) {
        return put(new TraceWarden(), text);
    }

    static TraceWarden compiled(String text) {
        TraceWarden warden = with(text);
        warden.compile();
        return warden;
    }

    static TraceWarden begun(String text, int... letters) {
        TraceWarden warden = compiled(text);
        warden.begin();
        for (int letter : letters) {
            warden.step(letter);
        }
        return warden;
    }

    static String reported(TraceWarden warden) {
        int length = warden.report();
        StringBuilder words = new StringBuilder();
        for (int i = 0; i < length; i++) {
            words.append(warden.said(i));
        }
        return words.toString();
    }

    static void finish() {
        System.out.println(wrong == 0 ? "all " + made + " answers are as due" : wrong + " of " + made + " are not");
        if (wrong != 0) {
            System.exit(1);
        }
    }
}
