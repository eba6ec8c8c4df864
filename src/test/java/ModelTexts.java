import java.util.ArrayList;
import java.util.List;
import java.util.Random;

/** Random texts, with and without FAULTS. */
final class ModelTexts {
    private static final String[] RULES = {"first", "best", "large", "small"};
    private static final String[] SEEN = {"hour", "left", "dips", "worth", "size", "mean"};
    private static final String[] TOKENS = {"kind", "worth", "size", "layer", "child", "reach", "feels", "first",
        "best", "likes", "costs", "puts", "purse", "hour", "or", "and", "not", "all", "min", "max", "(", ")", "[", "]",
        "<", ">", "=", ",", ";", "+", "-", "*", "/", "%", "0", "1", "7", "31", "100", "1000", "12345", "ka", "kb",
        "ca", "cb", "zz", "sevenab", "(((((((1)))))))", "@", "A", "\t", "\u00ff", "not not not"};

    private final Random random;
    private final List<String> kinds = new ArrayList<>();
    private final List<String> children = new ArrayList<>();
    private StringBuilder text;

    ModelTexts(Random random) {
        this.random = random;
    }

    private int below(int n) {
        return random.nextInt(n);
    }

    private String one(String... of) {
        return of[below(of.length)];
    }

    /** Tokens with a blank between, or none or more where one likes. */
    private void say(Object... tokens) {
        for (Object token : tokens) {
            String next = token.toString();
            boolean needs = text.length() > 0 && wordy(text.charAt(text.length() - 1)) && wordy(next.charAt(0));
            if (needs) text.append(one(" ", "\n", "  "));
            else if (below(6) == 0) text.append(' ');
            text.append(next);
        }
    }

    private static boolean wordy(char c) {
        return c >= 'a' && c <= 'z' || c >= '0' && c <= '9';
    }

    private String fresh(String start, List<String> of) {
        StringBuilder name = new StringBuilder(start).append((char) ('a' + of.size()));
        for (int n = below(4); n > 0; n--) name.append((char) ('a' + below(26)));
        of.add(name.toString());
        return name.toString();
    }

    String valid() {
        text = new StringBuilder();
        kinds.clear();
        children.clear();
        int few = below(10) == 0 ? 1 : 2;
        int kindCount = below(few * 4) + few - 1;
        int layerCount = kindCount == 0 ? 0 : below(few * 3);
        int childCount = below(few * 4) + few - 1;
        int costsAt = below(3);
        int putsAt = below(3);
        if (below(2) == 0) say("purse", below(5) == 0 ? 999 : below(80), ";");
        if (costsAt == 0) costs();
        for (int i = 0; i < kindCount; i++) say("kind", fresh("k", kinds), "worth", below(100), "size", 1 + below(9), ";");
        for (int i = 0; i < layerCount; i++) layer();
        for (int i = 0; i < childCount; i++) {
            say("child", fresh("c", children), "reach", 1 + below(5), "feels", below(4), one(RULES), ";");
        }
        if (putsAt == 0) puts();
        if (costsAt == 1) costs();
        for (int n = below(20); n > 0 && kindCount > 0 && childCount > 0; n--) {
            say("likes", children.get(below(childCount)), kinds.get(below(kindCount)), below(2) == 0 ? below(5) : below(100), ";");
        }
        return text.toString();
    }

    private void layer() {
        say("layer");
        int from = below(kinds.size());
        int n = 1 + below(kinds.size());
        boolean much = below(4) == 0;
        for (int i = 0; i < n; i++) say(kinds.get((from + i) % kinds.size()), 1 + below(much ? 30 : 4));
        say(";");
    }

    private void costs() {
        say("costs");
        if (below(3) > 0) say(below(6), "+");
        sum(3);
        say(";");
    }

    private void puts() {
        say("puts");
        test(3);
        say(";");
    }

    private void sum(int depth) {
        product(depth);
        while (below(3) == 0) {
            say(one("+", "-"));
            product(depth);
        }
    }

    private void product(int depth) {
        part(depth);
        while (below(4) == 0) {
            say(one("*", "/", "%"));
            part(depth);
        }
    }

    private void part(int depth) {
        int way = depth == 0 ? below(4) : below(6);
        if (way < 2) {
            say(below(8) == 0 ? below(10000) : below(30));
        } else if (way < 4) {
            say(one(SEEN));
        } else if (way == 4) {
            say("(");
            sum(depth - 1);
            say(")");
        } else {
            say(one("min", "max"), "(");
            sum(depth - 1);
            say(",");
            sum(depth - 1);
            say(")");
        }
    }

    private void test(int depth) {
        both(depth);
        while (below(3) == 0) {
            say("or");
            both(depth);
        }
    }

    private void both(int depth) {
        fact(depth);
        while (below(3) == 0) {
            say("and");
            fact(depth);
        }
    }

    private void fact(int depth) {
        int way = depth == 0 ? below(4) : below(6);
        if (way < 3) {
            sum(depth);
            say(one("<", ">", "="));
            sum(depth);
        } else if (way == 3) {
            say("all");
        } else if (way == 4) {
            say("not");
            fact(depth - 1);
        } else {
            say("[");
            test(depth - 1);
            say("]");
        }
    }

    /** A valid text of which some place was changed. */
    String spoilt() {
        StringBuilder spoilt = new StringBuilder(valid());
        if (below(12) == 0) {
            while (spoilt.length() < 700) spoilt.append(one("purse 1;", "purse 23 ;", "purse 0;"));
        }
        for (int n = below(3) == 0 ? 2 : 1; n > 0 && spoilt.length() > 0; n--) {
            int at = below(spoilt.length());
            switch (below(6)) {
                case 0 -> bytes(spoilt, at);
                case 1 -> statement(spoilt, at);
                case 2 -> numbers(spoilt, at);
                case 3 -> names(spoilt, at);
                case 4 -> openings(spoilt);
                default -> token(spoilt, at, one(TOKENS));
            }
        }
        if (spoilt.length() > 1600) spoilt.setLength(1600);
        return spoilt.toString();
    }

    private void bytes(StringBuilder spoilt, int at) {
        int to = Math.min(spoilt.length(), at + 1 + below(6));
        switch (below(5)) {
            case 0 -> spoilt.delete(at, to);
            case 1 -> spoilt.setLength(at);
            case 2 -> spoilt.insert(at, (char) ('a' + below(26)));
            case 3 -> spoilt.insert(at, (char) ('0' + below(10)));
            default -> spoilt.insert(at, spoilt.substring(at, to));
        }
    }

    /** A statement told once more, here or at the end. */
    private void statement(StringBuilder spoilt, int at) {
        int from = spoilt.lastIndexOf(";", at) + 1;
        int to = spoilt.indexOf(";", at) + 1;
        if (to == 0) return;
        String statement = spoilt.substring(from, to);
        for (int n = below(3) == 0 ? 9 : 1; n > 0; n--) spoilt.insert(below(2) == 0 ? to : spoilt.length(), statement);
    }

    private void numbers(StringBuilder spoilt, int at) {
        int digit = at;
        while (digit < spoilt.length() && !Character.isDigit(spoilt.charAt(digit))) digit++;
        if (digit == spoilt.length()) return;
        token(spoilt, digit, one("0", "00", "1", "3", "4", "5", "6", "9", "10", "0009", "30", "31", "99", "100", "999", "1000", "9999", "00001"));
    }

    private void names(StringBuilder spoilt, int at) {
        int letter = at;
        while (letter < spoilt.length() && !Character.isLetter(spoilt.charAt(letter))) letter++;
        if (letter == spoilt.length()) return;
        List<String> names = new ArrayList<>(kinds);
        names.addAll(children);
        names.add("none");
        token(spoilt, letter, names.get(below(names.size())));
    }

    /** Openings ahead of what costs or puts tells. */
    private void openings(StringBuilder spoilt) {
        boolean sums = below(2) == 0;
        int at = spoilt.indexOf(sums ? "costs" : "puts");
        if (at < 0) return;
        StringBuilder more = new StringBuilder();
        for (int n = below(10); n > 0; n--) more.append(sums ? "(" : one("[", " not "));
        spoilt.insert(at + (sums ? 5 : 4), more);
    }

    /** Another token in the place of one. */
    private static void token(StringBuilder spoilt, int at, String other) {
        int from = at;
        while (from > 0 && wordy(spoilt.charAt(from)) && wordy(spoilt.charAt(from - 1))) from--;
        int to = from + 1;
        while (to < spoilt.length() && wordy(spoilt.charAt(from)) && wordy(spoilt.charAt(to))) to++;
        spoilt.replace(from, to, other);
    }
}
