import java.util.ArrayList;
import java.util.HashMap;
import java.util.List;
import java.util.Map;
import java.util.Set;

/** A FETE read a second way: all tokens first, then by descent with an exception at the first FAULT. */
final class ModelText {
    /** hour, left, dips, worth, size, mean in, a number or a truth (1, 0) out. */
    interface Expr {
        long of(long[] seen);
    }

    static final class Fault extends RuntimeException {
        final int what;
        final int at;

        Fault(int what, int at) {
            super(null, null, false, false);
            this.what = what;
            this.at = at;
        }
    }

    record Kind(String name, int worth, int size) { }

    record Child(String name, int reach, int feels, int rule) { }

    private record Token(char type, String text, int at, int bad) { }

    static final Set<String> OWN = Set.of("kind", "worth", "size", "layer", "child", "reach", "feels", "first", "best",
            "large", "small", "likes", "costs", "puts", "purse", "hour", "left", "dips", "mean", "or", "and", "not",
            "all", "min", "max");
    private static final List<String> RULES = List.of("first", "best", "large", "small");
    private static final List<String> SEEN = List.of("hour", "left", "dips", "worth", "size", "mean");

    final List<Kind> kinds = new ArrayList<>();
    final List<int[]> layers = new ArrayList<>();
    final List<Child> children = new ArrayList<>();
    final Map<String, Integer> liking = new HashMap<>();
    Expr costs;
    Expr puts;
    int purse = 50;
    int statements;

    private final List<Token> tokens = new ArrayList<>();
    private int at;
    private int open;

    ModelText(int[] bytes) {
        cut(bytes);
        while (token().type != 'e') statement();
    }

    int worthTo(int child, int kind) {
        return liking.getOrDefault(child + " " + kind, kinds.get(kind).worth);
    }

    private void cut(int[] b) {
        int i = 0;
        while (i < b.length) {
            int from = i;
            boolean glued = from > 0 && isWordy(b[from - 1]);
            if (b[i] == 32 || b[i] == 10) {
                i++;
                continue;
            }
            boolean digits = isDigit(b[i]);
            StringBuilder text = new StringBuilder();
            if (isWordy(b[i])) {
                while (i < b.length && (digits ? isDigit(b[i]) : isWordy(b[i]) && !isDigit(b[i]))) text.append((char) b[i++]);
            } else {
                text.append((char) b[i++]);
            }
            int most = digits ? 4 : 6;
            if (glued && isWordy(b[from])) tokens.add(new Token('!', "", from, from));
            else if (text.length() > most) tokens.add(new Token('!', "", from, from + most));
            else tokens.add(new Token(digits ? 'n' : isWordy(b[from]) ? 'w' : 's', text.toString(), from, from));
        }
        tokens.add(new Token('e', "", b.length, b.length));
    }

    private static boolean isDigit(int c) {
        return c > 47 && c < 58;
    }

    private static boolean isWordy(int c) {
        return isDigit(c) || c > 96 && c < 123;
    }

    private Token token() {
        return tokens.get(at);
    }

    private boolean ahead(String text) {
        return token().text.equals(text);
    }

    private void want(String text) {
        if (!ahead(text)) throw new Fault(1, token().bad);
        at++;
    }

    private String name() {
        if (token().type != 'w' || OWN.contains(token().text)) throw new Fault(1, token().bad);
        return token().text;
    }

    private String fresh() {
        String name = name();
        if (kindOf(name) >= 0 || childOf(name) >= 0) throw new Fault(2, token().at);
        at++;
        return name;
    }

    private int kindOf(String name) {
        for (Kind kind : kinds) if (kind.name.equals(name)) return kinds.indexOf(kind);
        return -1;
    }

    private int childOf(String name) {
        for (Child child : children) if (child.name.equals(name)) return children.indexOf(child);
        return -1;
    }

    private int number(int least, int most) {
        if (token().type != 'n') throw new Fault(1, token().bad);
        int n = Integer.parseInt(token().text);
        if (n < least || n > most) throw new Fault(4, token().at);
        at++;
        return n;
    }

    private void statement() {
        Token first = token();
        if (statements == 80) throw new Fault(6, first.at);
        String word = first.type == 'w' ? first.text : "";
        at++;
        switch (word) {
            case "kind" -> {
                many(kinds.size() == 8, first);
                String name = fresh();
                want("worth");
                int worth = number(0, 99);
                want("size");
                kinds.add(new Kind(name, worth, number(1, 9)));
            }
            case "layer" -> {
                many(layers.size() == 5, first);
                int[] layer = new int[8];
                do {
                    int kind = kindOf(name());
                    if (kind < 0 || layer[kind] > 0) throw new Fault(3, token().at);
                    at++;
                    layer[kind] = number(1, 30);
                } while (!ahead(";"));
                layers.add(layer);
            }
            case "child" -> {
                many(children.size() == 8, first);
                String name = fresh();
                want("reach");
                int reach = number(1, 5);
                want("feels");
                int feels = number(0, 3);
                int rule = RULES.indexOf(token().text);
                if (rule < 0) throw new Fault(1, token().bad);
                at++;
                children.add(new Child(name, reach, feels, rule));
            }
            case "likes" -> {
                int child = childOf(name());
                if (child < 0) throw new Fault(3, token().at);
                at++;
                int kind = kindOf(name());
                if (kind < 0) throw new Fault(3, token().at);
                at++;
                liking.put(child + " " + kind, number(0, 99));
            }
            case "costs" -> {
                many(costs != null, first);
                costs = sum();
            }
            case "puts" -> {
                many(puts != null, first);
                puts = test();
            }
            case "purse" -> purse = number(0, 999);
            default -> throw new Fault(1, first.bad);
        }
        want(";");
        statements++;
    }

    private static void many(boolean tooMany, Token first) {
        if (tooMany) throw new Fault(6, first.at);
    }

    private void opens() {
        if (++open == 8) throw new Fault(5, token().at);
        at++;
    }

    private Expr test() {
        Expr left = both();
        while (ahead("or")) {
            at++;
            Expr a = left;
            Expr b = both();
            left = seen -> Math.max(a.of(seen), b.of(seen));
        }
        return left;
    }

    private Expr both() {
        Expr left = fact();
        while (ahead("and")) {
            at++;
            Expr a = left;
            Expr b = fact();
            left = seen -> a.of(seen) * b.of(seen);
        }
        return left;
    }

    private Expr fact() {
        if (ahead("not")) {
            opens();
            Expr of = fact();
            open--;
            return seen -> of.of(seen) == 0 ? 1 : 0;
        }
        if (ahead("[")) {
            opens();
            Expr of = test();
            want("]");
            open--;
            return of;
        }
        if (ahead("all")) {
            at++;
            return seen -> 1;
        }
        Expr a = sum();
        String sign = token().text;
        if (!List.of("<", ">", "=").contains(sign)) throw new Fault(1, token().bad);
        at++;
        Expr b = sum();
        return seen -> {
            int order = Long.compare(a.of(seen), b.of(seen));
            return switch (sign) {
                case "<" -> order < 0 ? 1 : 0;
                case ">" -> order > 0 ? 1 : 0;
                default -> order == 0 ? 1 : 0;
            };
        };
    }

    private static long floor(long a, long b) {
        long q = a / b;
        return q * b != a && (a < 0) != (b < 0) ? q - 1 : q;
    }

    private static long clip(long v) {
        return v > 1000000 ? 1000000 : v < -1000000 ? -1000000 : v;
    }

    private Expr sum() {
        Expr left = product();
        while (ahead("+") || ahead("-")) {
            int sign = ahead("+") ? 1 : -1;
            at++;
            Expr a = left;
            Expr b = product();
            left = seen -> clip(a.of(seen) + sign * b.of(seen));
        }
        return left;
    }

    private Expr product() {
        Expr left = part();
        while (ahead("*") || ahead("/") || ahead("%")) {
            String sign = token().text;
            at++;
            Expr a = left;
            Expr b = part();
            left = seen -> {
                long x = a.of(seen);
                long y = b.of(seen);
                if (sign.equals("*")) return clip(x * y);
                if (y == 0) return 0;
                return sign.equals("/") ? clip(floor(x, y)) : clip(x - y * floor(x, y));
            };
        }
        return left;
    }

    private Expr part() {
        if (token().type == 'n') {
            int n = Integer.parseInt(token().text);
            at++;
            return seen -> n;
        }
        if (ahead("(")) {
            opens();
            Expr of = sum();
            want(")");
            open--;
            return of;
        }
        if (ahead("min") || ahead("max")) {
            boolean least = ahead("min");
            at++;
            if (!ahead("(")) throw new Fault(1, token().bad);
            opens();
            Expr a = sum();
            want(",");
            Expr b = sum();
            want(")");
            open--;
            return seen -> least ? Math.min(a.of(seen), b.of(seen)) : Math.max(a.of(seen), b.of(seen));
        }
        int which = SEEN.indexOf(token().text);
        if (which < 0) throw new Fault(1, token().bad);
        at++;
        return seen -> seen[which];
    }
}
