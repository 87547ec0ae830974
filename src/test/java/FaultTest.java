/** Walks through the grammar: at each place, with which characters a property can go on. */
public final class FaultTest {
    private FaultTest() {
    }

    public static void main(String[] args) {
        Chance chance = new Chance(11);
        for (int walk = 0; walk < 150; walk++) {
            // Some walks go deep first: the limit on the depth is seen only there.
            String openers = walk % 3 == 0 ? "" : walk % 3 == 1 ? "G!X([{" : "{[(!";
            walk(chance, openers);
        }
        Checks.finish();
    }

    private static void walk(Chance chance, String openers) {
        StringBuilder text = new StringBuilder();
        for (int i = 0; i < 40; i++) {
            StringBuilder ways = new StringBuilder();
            TraceWarden warden = new TraceWarden();
            for (char c = 33; c <= 126; c++) {
                // A text takes up to eight calls: no object is used for more than 512 of them.
                warden = c % 32 == 0 ? new TraceWarden() : warden;
                String longer = text.toString() + c;
                int fault = Reference.faultIn(longer);
                check(warden, longer, fault);
                if (fault == -1 || fault == longer.length()) {
                    ways.append(c);
                    // A signal is taken as it is written more often than the signs, so that things come to an end.
                    ways.append(openers.indexOf(c) >= 0 ? String.valueOf(c).repeat(6) : "");
                }
            }
            if (ways.length() == 0) {
                return;
            }
            text.append(ways.charAt(chance.below(ways.length())));
        }
    }

    private static void check(TraceWarden warden, String text, int fault) {
        Checks.put(warden, text);
        String answer = Checks.answer(warden::compile);
        Checks.same(text + " is no property", fault >= 0, answer.equals("throws.IllegalArgumentException"));
        if (fault >= 0) {
            Checks.due(text + " fault()", fault, warden::fault);
        }
    }
}
