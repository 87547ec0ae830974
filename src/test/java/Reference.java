import java.util.ArrayList;
import java.util.HashMap;
import java.util.HashSet;
import java.util.List;
import java.util.Map;
import java.util.Set;
import java.util.TreeSet;

/**
 * The document's terms once more, in another way than the class takes: texts are read by following all ways in which
 * the grammar can go on, conditions are sets of sets, states are told apart pair by pair, gates are texts of truth
 * tables, and the meaning is worked out on a trace that comes round.
 */
final class Reference {
    static final int MAX_DEPTH = 12;

    // ---- the grammar, as ways to go on ----

    /** -1 if the text is a property, else the place of the fault. */
    static int faultIn(String text) {
        Set<String> ways = new HashSet<>();
        ways.add("P" + (char) 0);
        for (int i = 0; i < text.length(); i++) {
            Set<String> then = new HashSet<>();
            for (String way : opened(ways)) {
                if (!way.isEmpty() && way.charAt(0) == text.charAt(i) + 256) {
                    then.add(way.substring(1));
                }
            }
            if (then.isEmpty()) {
                return i;
            }
            ways = then;
        }
        return opened(ways).contains("") ? -1 : text.length();
    }

    /** The ways, with what stands first in each written out until it is a character (told by 256 more) or nothing. */
    private static Set<String> opened(Set<String> ways) {
        Set<String> done = new HashSet<>();
        List<String> open = new ArrayList<>(ways);
        while (!open.isEmpty()) {
            String way = open.remove(open.size() - 1);
            if (way.isEmpty() || way.charAt(0) >= 256) {
                done.add(way);
                continue;
            }
            for (String first : forms(way.charAt(0), way.charAt(1))) {
                open.add(first + way.substring(2));
            }
        }
        return done;
    }

    /**
     * P property, B boolean, S sequence; the other things are parts of these, and have their depth. In a form, ' stands
     * for that depth and " for one more, and a character stands behind a ~.
     */
    private static List<String> forms(char thing, char depth) {
        List<String> forms = new ArrayList<>();
        if ("PBS".indexOf(thing) >= 0 && depth > MAX_DEPTH) {
            return forms;
        }
        String[] raw;
        switch (thing) {
            case 'P':
                raw = new String[] {"~G P\"", "~X P\"", "~{ S\" ~} A'", "~( P\" O'", "~a", "~b", "~c", "~0", "~1",
                    "~! B\""};
                break;
            case 'A':
                raw = new String[] {"~> P\"", "~: P\""};
                break;
            case 'O':
                raw = new String[] {"~& P\" ~)", "~| P\" ~)", "~W P\" ~)"};
                break;
            case 'B':
                raw = new String[] {"~a", "~b", "~c", "~0", "~1", "~! B\"", "~( B\" N'"};
                break;
            case 'N':
                raw = new String[] {"~& B\" ~)", "~| B\" ~)"};
                break;
            case 'S':
                raw = new String[] {"T' R'"};
                break;
            case 'R':
                raw = new String[] {"", "~, T' R'"};
                break;
            case 'U':
                raw = new String[] {"B\"", "~[ S\" Q' ~]"};
                break;
            case 'Q':
                raw = new String[] {"", "~/ S\" Q'"};
                break;
            case 'T':
                raw = new String[] {"U' M'"};
                break;
            default:
                raw = timesForms();
                break;
        }
        for (String form : raw) {
            StringBuilder words = new StringBuilder();
            for (String word : form.isEmpty() ? new String[0] : form.split(" ")) {
                if (word.charAt(0) == '~') {
                    words.append((char) (word.charAt(1) + 256));
                } else {
                    words.append(word.charAt(0)).append((char) (depth + (word.charAt(1) == '"' ? 1 : 0)));
                }
            }
            forms.add(words.toString());
        }
        return forms;
    }

    private static String[] timesForms() {
        List<String> forms = new ArrayList<>();
        forms.add("");
        forms.add("~+");
        for (int m = 1; m <= 9; m++) {
            forms.add("~* ~" + m);
            for (int n = m; n <= 9; n++) {
                forms.add("~* ~" + m + " ~- ~" + n);
            }
        }
        return forms.toArray(new String[0]);
    }

    // ---- the tree of a text that is a property ----

    /** kind: G X & | W > : or ! for a boolean; in sequences , / * + and ! too. */
    static final class Tree {
        final char kind;
        final List<Tree> parts = new ArrayList<>();
        String bool;
        int least;
        int most;
        List<Place> places;
        Set<Place> first;
        Set<Place> last;

        Tree(char kind, Tree... parts) {
            this.kind = kind;
            this.parts.addAll(List.of(parts));
        }
    }

    static final class Place {
        String bool;
        final Set<Place> behind = new HashSet<>();
        Tree rule;
    }

    private static final class Eater {
        private final String text;
        private int at = 0;

        Eater(String text) {
            this.text = text;
        }

        boolean eat(char c) {
            boolean there = at < text.length() && text.charAt(at) == c;
            at += there ? 1 : 0;
            return there;
        }

        Tree property() {
            char c = text.charAt(at);
            if (eat('G') || eat('X')) {
                return new Tree(c, property());
            }
            if (eat('{')) {
                Tree sequence = sequence();
                eat('}');
                char kind = text.charAt(at++);
                return new Tree(kind, sequence, property());
            }
            if (eat('(')) {
                Tree left = property();
                char kind = text.charAt(at++);
                Tree right = property();
                eat(')');
                return new Tree(kind, left, right);
            }
            Tree leaf = new Tree('!');
            leaf.bool = bool();
            return leaf;
        }

        String bool() {
            int from = at;
            if (eat('!')) {
                bool();
            } else if (eat('(')) {
                bool();
                at++;
                bool();
                at++;
            } else {
                at++;
            }
            return text.substring(from, at);
        }

        Tree sequence() {
            Tree all = new Tree(',', term());
            while (eat(',')) {
                all.parts.add(term());
            }
            return all;
        }

        Tree term() {
            Tree unit = unit();
            if (eat('+')) {
                return new Tree('+', unit);
            }
            if (!eat('*')) {
                return unit;
            }
            Tree times = new Tree('*', unit);
            times.least = text.charAt(at++) - '0';
            times.most = eat('-') ? text.charAt(at++) - '0' : times.least;
            return times;
        }

        Tree unit() {
            if (!eat('[')) {
                Tree leaf = new Tree('!');
                leaf.bool = bool();
                return leaf;
            }
            Tree any = new Tree('/', sequence());
            while (eat('/')) {
                any.parts.add(sequence());
            }
            eat(']');
            return any;
        }
    }

    static Tree tree(String text) {
        return new Eater(text).property();
    }

    static boolean isTrue(String bool, int letter) {
        switch (bool.charAt(0)) {
            case 'a':
                return (letter & 1) != 0;
            case 'b':
                return (letter & 2) != 0;
            case 'c':
                return (letter & 4) != 0;
            case '0':
                return false;
            case '1':
                return true;
            case '!':
                return !isTrue(bool.substring(1), letter);
            default:
                int middle = middleOf(bool);
                boolean left = isTrue(bool.substring(1, middle), letter);
                boolean right = isTrue(bool.substring(middle + 1, bool.length() - 1), letter);
                return bool.charAt(middle) == '&' ? left && right : left || right;
        }
    }

    private static int middleOf(String bool) {
        int open = 0;
        for (int i = 0; i < bool.length(); i++) {
            char c = bool.charAt(i);
            open += c == '(' ? 1 : c == ')' ? -1 : 0;
            if (open == 1 && (c == '&' || c == '|')) {
                return i;
            }
        }
        throw new AssertionError(bool);
    }

    // ---- the meaning, on a trace whose cycles from one on come again and again ----

    static boolean holds(Tree p, int[] trace, int from, int at) {
        switch (p.kind) {
            case '!':
                return isTrue(p.bool, trace[at]);
            case 'X':
                return holds(p.parts.get(0), trace, from, behind(trace, from, at));
            case '&':
                return holds(p.parts.get(0), trace, from, at) && holds(p.parts.get(1), trace, from, at);
            case '|':
                return holds(p.parts.get(0), trace, from, at) || holds(p.parts.get(1), trace, from, at);
            case 'G':
            case 'W':
                return holdsOn(p, trace, from, at);
            default:
                Set<Integer> ends = ends(p.parts.get(0), trace, from, Set.of(at));
                for (int end : p.kind == '>' ? ends : allBehind(trace, from, ends)) {
                    if (!holds(p.parts.get(1), trace, from, end)) {
                        return false;
                    }
                }
                return true;
        }
    }

    private static boolean holdsOn(Tree p, int[] trace, int from, int at) {
        int here = at;
        for (int i = 0; i <= trace.length; i++) {
            if (p.kind == 'W' && holds(p.parts.get(1), trace, from, here)) {
                return true;
            }
            if (!holds(p.parts.get(0), trace, from, here)) {
                return false;
            }
            here = behind(trace, from, here);
        }
        return true;
    }

    private static int behind(int[] trace, int from, int at) {
        return at + 1 < trace.length ? at + 1 : from;
    }

    private static Set<Integer> allBehind(int[] trace, int from, Set<Integer> cycles) {
        Set<Integer> all = new HashSet<>();
        for (int cycle : cycles) {
            all.add(behind(trace, from, cycle));
        }
        return all;
    }

    private static Set<Integer> ends(Tree s, int[] trace, int from, Set<Integer> begins) {
        Set<Integer> all = new HashSet<>();
        Set<Integer> now = begins;
        switch (s.kind) {
            case '!':
                for (int cycle : begins) {
                    if (isTrue(s.bool, trace[cycle])) {
                        all.add(cycle);
                    }
                }
                return all;
            case '/':
                for (Tree part : s.parts) {
                    all.addAll(ends(part, trace, from, begins));
                }
                return all;
            case ',':
                for (int i = 0; i < s.parts.size(); i++) {
                    now = ends(s.parts.get(i), trace, from, i == 0 ? begins : allBehind(trace, from, now));
                }
                return now;
            default:
                int least = s.kind == '+' ? 1 : s.least;
                int most = s.kind == '+' ? trace.length + 1 : s.most;
                for (int i = 1; i <= most; i++) {
                    now = ends(s.parts.get(0), trace, from, i == 1 ? begins : allBehind(trace, from, now));
                    if (i >= least) {
                        all.addAll(now);
                    }
                }
                return all;
        }
    }

    // ---- obligations ----

    private final List<Object> obligations = new ArrayList<>();

    /** How many places a sequence has, written out; many if too many to write. */
    private static long placesIn(Tree s) {
        long all = s.kind == '!' ? 1 : 0;
        for (Tree part : s.parts) {
            all = Math.min(1000, all + placesIn(part));
        }
        return Math.min(1000, s.kind == '*' ? all * s.most : all);
    }

    private static long placesOf(Tree p) {
        long all = 0;
        for (Tree part : p.parts) {
            boolean sequence = (p.kind == '>' || p.kind == ':') && part == p.parts.get(0);
            all += sequence ? placesIn(part) : placesOf(part);
        }
        return all;
    }

    /** A sequence without *: as a tree in which each unit is an own place. */
    private static Tree writtenOut(Tree s) {
        if (s.kind == '*') {
            Tree any = new Tree('/');
            // One row of copies for all: the shorter ones are its beginnings.
            Tree row = new Tree('<');
            for (int i = 0; i < s.most; i++) {
                row.parts.add(writtenOut(s.parts.get(0)));
            }
            row.least = s.least;
            any.parts.add(row);
            return any;
        }
        Tree copy = new Tree(s.kind);
        copy.bool = s.bool;
        for (Tree part : s.parts) {
            copy.parts.add(writtenOut(part));
        }
        return copy;
    }

    private void glue(Tree s, Tree rule) {
        s.first = new HashSet<>();
        s.last = new HashSet<>();
        if (s.kind == '!') {
            Place place = new Place();
            place.bool = s.bool;
            place.rule = rule;
            obligations.add(place);
            s.first.add(place);
            s.last.add(place);
            return;
        }
        for (Tree part : s.parts) {
            glue(part, rule);
        }
        int n = s.parts.size();
        for (int i = 0; i < n; i++) {
            Tree part = s.parts.get(i);
            boolean begins = s.kind == '/' || i == 0;
            boolean ends = s.kind == '/' || i == n - 1 || s.kind == '<' && i + 1 >= s.least;
            s.first.addAll(begins ? part.first : Set.of());
            s.last.addAll(ends ? part.last : Set.of());
            if ((s.kind == ',' || s.kind == '<') && i > 0) {
                connect(s.parts.get(i - 1), part);
            }
        }
        if (s.kind == '+') {
            connect(s, s);
        }
    }

    private static void connect(Tree before, Tree after) {
        for (Place place : before.last) {
            place.behind.addAll(after.first);
        }
    }

    private void addObligations(Tree p) {
        if (p.kind == 'G' || p.kind == 'W') {
            addProperty(p);
        }
        if (p.kind == 'X') {
            addProperty(p.parts.get(0));
        }
        if (p.kind == ':') {
            addProperty(p.parts.get(1));
        }
        if (p.kind == '>' || p.kind == ':') {
            Tree sequence = writtenOut(p.parts.get(0));
            glue(sequence, p);
            p.first = sequence.first;
            p.last = sequence.last;
            addObligations(p.parts.get(1));
            return;
        }
        for (Tree part : p.parts) {
            addObligations(part);
        }
    }

    private void addProperty(Tree p) {
        for (Object known : obligations) {
            if (known == p) {
                return;
            }
        }
        obligations.add(p);
    }

    // ---- conditions: the least sets that are enough, each a set of obligations' numbers as bits ----

    private static final Set<Integer> NOTHING_ASKED = Set.of(0);
    private static final Set<Integer> NEVER = Set.of();

    private static Set<Integer> least(Set<Integer> sets) {
        Set<Integer> all = new TreeSet<>();
        for (int set : sets) {
            boolean needed = true;
            for (int other : sets) {
                needed &= other == set || (other & set) != other;
            }
            if (needed) {
                all.add(set);
            }
        }
        return all;
    }

    private static Set<Integer> both(Set<Integer> one, Set<Integer> other) {
        Set<Integer> all = new TreeSet<>();
        for (int x : one) {
            for (int y : other) {
                all.add(x | y);
            }
        }
        return least(all);
    }

    private static Set<Integer> either(Set<Integer> one, Set<Integer> other) {
        Set<Integer> all = new TreeSet<>(one);
        all.addAll(other);
        return least(all);
    }

    private Set<Integer> alone(Object obligation) {
        for (int i = 0; i < obligations.size(); i++) {
            if (obligations.get(i) == obligation) {
                return Set.of(1 << i);
            }
        }
        throw new AssertionError();
    }

    private Set<Integer> asked(Object obligation, int letter) {
        return obligation instanceof Place ? askedBy((Place) obligation, letter) : askedBy((Tree) obligation, letter);
    }

    private Set<Integer> askedBy(Place place, int letter) {
        if (!isTrue(place.bool, letter)) {
            return NOTHING_ASKED;
        }
        Set<Integer> all = NOTHING_ASKED;
        for (Place behind : place.behind) {
            all = both(all, alone(behind));
        }
        if (place.rule.last.contains(place)) {
            Tree p = place.rule.parts.get(1);
            all = both(all, place.rule.kind == '>' ? askedBy(p, letter) : alone(p));
        }
        return all;
    }

    private Set<Integer> askedBy(Tree p, int letter) {
        switch (p.kind) {
            case '!':
                return isTrue(p.bool, letter) ? NOTHING_ASKED : NEVER;
            case 'X':
                return alone(p.parts.get(0));
            case 'G':
                return both(askedBy(p.parts.get(0), letter), alone(p));
            case '&':
                return both(askedBy(p.parts.get(0), letter), askedBy(p.parts.get(1), letter));
            case '|':
                return either(askedBy(p.parts.get(0), letter), askedBy(p.parts.get(1), letter));
            case 'W':
                return either(askedBy(p.parts.get(1), letter), both(askedBy(p.parts.get(0), letter), alone(p)));
            default:
                Set<Integer> all = NOTHING_ASKED;
                for (Place place : p.first) {
                    all = both(all, askedBy(place, letter));
                }
                return all;
        }
    }

    private Set<Integer> after(Set<Integer> condition, int letter) {
        Set<Integer> any = NEVER;
        for (int set : condition) {
            Set<Integer> all = NOTHING_ASKED;
            for (int i = 0; i < obligations.size(); i++) {
                if ((set >> i & 1) != 0) {
                    all = both(all, asked(obligations.get(i), letter));
                }
            }
            any = either(any, all);
        }
        return new TreeSet<>(any);
    }

    // ---- the monitor and the circuit ----

    final Tree whole;
    /** Null if there are too many obligations or conditions. */
    int[][] next;
    int obligationCount;
    int conditionCount;
    int bits;
    int gates;

    Reference(String text) {
        whole = tree(text);
        if (placesOf(whole) > 9) {
            return;
        }
        addProperty(whole);
        addObligations(whole);
        obligationCount = obligations.size();
        if (obligationCount > 9) {
            return;
        }
        List<Set<Integer>> conditions = new ArrayList<>();
        Map<Set<Integer>, Integer> number = new HashMap<>();
        List<int[]> leads = new ArrayList<>();
        conditions.add(new TreeSet<>(alone(whole)));
        number.put(conditions.get(0), 0);
        for (int i = 0; i < conditions.size(); i++) {
            int[] lead = new int[8];
            for (int letter = 0; letter < 8; letter++) {
                Set<Integer> then = after(conditions.get(i), letter);
                if (!number.containsKey(then)) {
                    number.put(then, conditions.size());
                    conditions.add(then);
                }
                lead[letter] = number.get(then);
            }
            leads.add(lead);
            if (conditions.size() > 40) {
                return;
            }
        }
        conditionCount = conditions.size();
        reduce(conditions, leads);
        countGates();
    }

    private void reduce(List<Set<Integer>> conditions, List<int[]> leads) {
        int n = conditions.size();
        boolean[] failing = new boolean[n];
        for (int round = 0; round <= n; round++) {
            for (int i = 0; i < n; i++) {
                boolean all = true;
                for (int to : leads.get(i)) {
                    all &= failing[to];
                }
                failing[i] |= conditions.get(i).isEmpty() || all;
            }
        }
        boolean[][] apart = new boolean[n][n];
        for (int round = 0; round <= n; round++) {
            for (int i = 0; i < n; i++) {
                for (int j = 0; j < n; j++) {
                    apart[i][j] |= failing[i] != failing[j];
                    for (int letter = 0; letter < 8; letter++) {
                        apart[i][j] |= apart[leads.get(i)[letter]][leads.get(j)[letter]];
                    }
                }
            }
        }
        List<Integer> states = new ArrayList<>();
        List<int[]> table = new ArrayList<>();
        if (!failing[0]) {
            states.add(0);
        }
        for (int s = 0; s < states.size(); s++) {
            int[] row = new int[8];
            for (int letter = 0; letter < 8; letter++) {
                int to = leads.get(states.get(s))[letter];
                row[letter] = -1;
                for (int t = 0; t < states.size(); t++) {
                    row[letter] = failing[to] || apart[to][states.get(t)] ? row[letter] : t;
                }
                if (!failing[to] && row[letter] == -1) {
                    row[letter] = states.size();
                    states.add(to);
                }
            }
            table.add(row);
        }
        next = table.toArray(new int[0][]);
    }

    boolean output(int output, int code, int letter) {
        int k = next.length;
        int then = code >= k || next[code][letter] < 0 ? k : next[code][letter];
        return output == bits ? then == k : (then >> output & 1) != 0;
    }

    private void countGates() {
        bits = 1;
        while (1 << bits <= next.length) {
            bits++;
        }
        int inputs = 3 + bits;
        Set<String> functions = new HashSet<>();
        for (int output = 0; output <= bits; output++) {
            for (int fixed = 0; fixed <= inputs; fixed++) {
                for (int way = 0; way < 1 << fixed; way++) {
                    functions.add(function(output, fixed, way));
                }
            }
        }
        functions.remove("0".repeat(1 << inputs));
        functions.remove("1".repeat(1 << inputs));
        gates = functions.size();
    }

    /** The truth table, over all the inputs, of an output with the first ones fixed in a way. */
    private String function(int output, int fixed, int way) {
        int inputs = 3 + bits;
        StringBuilder table = new StringBuilder();
        for (int i = 0; i < 1 << inputs; i++) {
            int free = inputs - fixed;
            int in = way << free | i & (1 << free) - 1;
            int signals = in >> bits;
            int letter = (signals >> 2 & 1) | (signals & 2) | (signals & 1) << 2;
            table.append(output(output, in & (1 << bits) - 1, letter) ? '1' : '0');
        }
        return table.toString();
    }

    /** The state behind letters, -1 if they fail. */
    int run(int... letters) {
        int state = next.length > 0 ? 0 : -1;
        for (int letter : letters) {
            state = state < 0 ? -1 : next[state][letter];
        }
        return state;
    }
}
