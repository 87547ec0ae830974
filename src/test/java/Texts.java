/** Makes texts by chance: properties mostly, of up to 40 characters. */
final class Texts {
    private final Chance chance;

    Texts(Chance chance) {
        this.chance = chance;
    }

    String property() {
        for (int i = 0; i < 1000; i++) {
            String text = property(1 + chance.below(5));
            if (text.length() <= 40) {
                return text;
            }
        }
        return "a";
    }

    private String property(int depth) {
        int way = depth <= 0 ? 0 : chance.below(12);
        switch (way) {
            case 1:
            case 2:
                return "G" + property(depth - 1);
            case 3:
            case 4:
                return "X" + property(depth - 1);
            case 5:
            case 6:
            case 7:
                return "{" + sequence(depth - 1) + "}" + (chance.oneIn(2) ? ">" : ":") + property(depth - 1);
            case 8:
            case 9:
            case 10:
                return "(" + property(depth - 1) + "&|W".charAt(chance.below(3)) + property(depth - 1) + ")";
            default:
                return chance.oneIn(3) ? "!" + bool(depth - 1) : atom();
        }
    }

    private String atom() {
        return String.valueOf("aaabbbccc01".charAt(chance.below(11)));
    }

    private String bool(int depth) {
        int way = depth <= 0 ? 0 : chance.below(5);
        switch (way) {
            case 1:
                return "!" + bool(depth - 1);
            case 2:
                return "(" + bool(depth - 1) + (chance.oneIn(2) ? "&" : "|") + bool(depth - 1) + ")";
            default:
                return atom();
        }
    }

    private String sequence(int depth) {
        StringBuilder all = new StringBuilder(term(depth));
        while (chance.oneIn(2)) {
            all.append(',').append(term(depth));
        }
        return all.toString();
    }

    private String term(int depth) {
        String unit = unit(depth);
        switch (chance.below(6)) {
            case 0:
                return unit + "+";
            case 1:
                return unit + "*" + (1 + chance.below(3));
            case 2:
                int least = 1 + chance.below(3);
                return unit + "*" + least + "-" + (least + chance.below(3));
            default:
                return unit;
        }
    }

    private String unit(int depth) {
        if (depth <= 0 || chance.below(3) > 0) {
            return bool(depth - 1);
        }
        StringBuilder any = new StringBuilder("[").append(sequence(depth - 1));
        while (chance.oneIn(2)) {
            any.append('/').append(sequence(depth - 1));
        }
        return any.append(']').toString();
    }

    /** A text with something wrong in it, most likely. */
    String spoilt(String text) {
        String signs = "GX{}>:()&|Wabc01!,*+-/[]2359z~";
        char sign = signs.charAt(chance.below(signs.length()));
        int at = chance.below(text.length() + 1);
        String before = text.substring(0, at);
        String behind = text.substring(Math.min(at + 1, text.length()));
        String[] ways = {before, before + behind, before + sign + behind, before + sign + text.substring(at)};
        String made = ways[chance.below(4)];
        return made.substring(0, Math.min(40, made.length()));
    }
}
