import java.math.BigInteger;
import java.util.ArrayList;
import java.util.Arrays;
import java.util.List;

/** The document a second time, told plainly and slowly: every parcel one by one, every way of touching. */
final class Model {
    private static final int[] LIE = {0, 1, 2, 3, 4};

    private static final class State {
        int hour;
        int dips;
        int[][] barrel = new int[0][];
        int[] purse = new int[0];
        int[][] had = new int[0][];
        List<int[]> kept = new ArrayList<>();

        State copy() {
            State s = new State();
            s.hour = hour;
            s.dips = dips;
            s.barrel = deep(barrel);
            s.purse = purse.clone();
            s.had = deep(had);
            s.kept = new ArrayList<>(kept);
            return s;
        }
    }

    private static int[][] deep(int[][] rows) {
        int[][] copy = new int[rows.length][];
        for (int i = 0; i < rows.length; i++) copy[i] = rows[i].clone();
        return copy;
    }

    private List<Integer> tape = new ArrayList<>();
    private ModelText text = new ModelText(new int[0]);
    private State now = new State();
    private List<State> before = new ArrayList<>();
    private int[][] rowLeft;
    private List<Integer> image = new ArrayList<>();
    private int fault;
    private int place = -1;
    private long seed = 1;
    private final int[] refused = new int[6];

    private int no(int what) {
        refused[what]++;
        return -1;
    }

    private boolean nay(int what) {
        refused[what]++;
        return false;
    }

    private int kindCount() {
        return text.kinds.size();
    }

    private boolean noKind(int kind) {
        return kind < 0 || kind >= kindCount();
    }

    private boolean noLayer(int layer) {
        return layer < 0 || layer >= text.layers.size();
    }

    private boolean noChild(int child) {
        return child < 0 || child >= text.children.size();
    }

    private int[] takeTape() {
        int[] bytes = tape.stream().mapToInt(b -> b).toArray();
        tape.clear();
        return bytes;
    }

    public int feed(int a, int b, int c, int d, int e) {
        if (tape.size() > 1580) return no(0);
        for (int n : new int[] {a, b, c, d, e}) {
            for (byte x : BigInteger.valueOf(n & 0xffffffffL | 1L << 32).toByteArray()) tape.add(x & 255);
            tape.remove(tape.size() - 5);
        }
        return tape.size();
    }

    public boolean end(int n) {
        if (n < 0 || n > tape.size()) return nay(0);
        tape = new ArrayList<>(tape.subList(0, n));
        return true;
    }

    public int fete() {
        try {
            text = new ModelText(takeTape());
        } catch (ModelText.Fault f) {
            fault = f.what;
            place = f.at;
            return no(1);
        }
        fault = 0;
        place = -1;
        now = new State();
        now.barrel = new int[text.layers.size()][];
        for (int i = 0; i < now.barrel.length; i++) now.barrel[i] = Arrays.copyOf(text.layers.get(i), kindCount());
        now.purse = new int[text.children.size()];
        Arrays.fill(now.purse, text.purse);
        now.had = new int[text.children.size()][kindCount()];
        before.clear();
        rowLeft = null;
        return text.statements;
    }

    public int fault(int what) {
        return what == 0 ? fault : what == 1 ? place : -1;
    }

    private static int all(int[][] rows) {
        return Arrays.stream(rows).mapToInt(r -> Arrays.stream(r).sum()).sum();
    }

    public int has(int what) {
        return switch (what) {
            case 0 -> kindCount();
            case 1 -> text.layers.size();
            case 2 -> text.children.size();
            case 3 -> now.hour;
            case 4 -> all(now.barrel);
            case 5 -> now.dips;
            case 6 -> cost();
            case 7 -> Arrays.stream(now.purse).sum();
            case 8 -> all(now.had);
            case 9 -> toldKept().size();
            case 10 -> before.size();
            case 11 -> (int) seed;
            default -> -1;
        };
    }

    public int letter(int kind, int which, int k) {
        if (k < 0 || k > 5 || kind < 0 || kind > 1) return -1;
        if (kind == 0 ? noKind(which) : noChild(which)) return -1;
        String name = kind == 0 ? text.kinds.get(which).name() : text.children.get(which).name();
        return k < name.length() ? name.charAt(k) - 96 : 0;
    }

    public int kind(int kind, int what) {
        if (noKind(kind)) return -1;
        return switch (what) {
            case 0 -> text.kinds.get(kind).worth();
            case 1 -> text.kinds.get(kind).size();
            case 2 -> Arrays.stream(now.barrel).mapToInt(l -> l[kind]).sum();
            case 3 -> Arrays.stream(now.had).mapToInt(h -> h[kind]).sum();
            default -> -1;
        };
    }

    public int layer(int layer, int kind) {
        if (noLayer(layer) || kind != -1 && noKind(kind)) return -1;
        return kind == -1 ? Arrays.stream(now.barrel[layer]).sum() : now.barrel[layer][kind];
    }

    public int child(int child, int what) {
        if (noChild(child)) return -1;
        ModelText.Child c = text.children.get(child);
        int worth = 0;
        for (int k = 0; k < kindCount(); k++) worth += now.had[child][k] * text.worthTo(child, k);
        return switch (what) {
            case 0 -> c.reach();
            case 1 -> c.feels();
            case 2 -> c.rule();
            case 3 -> now.purse[child];
            case 4 -> Arrays.stream(now.had[child]).sum();
            case 5 -> worth;
            case 6 -> within(now.barrel, child, LIE).size();
            default -> -1;
        };
    }

    /** Each parcel within reach as {layer, kind}, layer by layer, kind by kind. */
    private List<int[]> within(int[][] barrel, int child, int[] order) {
        List<int[]> parcels = new ArrayList<>();
        int layersLeft = text.children.get(child).reach();
        boolean met = false;
        for (int i = 0; i < barrel.length; i++) {
            int[] layer = barrel[order[i]];
            met |= Arrays.stream(layer).sum() > 0;
            if (!met || layersLeft-- <= 0) continue;
            for (int k = 0; k < layer.length; k++) {
                for (int n = 0; n < layer[k]; n++) parcels.add(new int[] {order[i], k});
            }
        }
        return parcels;
    }

    private long[] countsWithin(int child, int[] order) {
        long[] counts = new long[kindCount()];
        for (int[] parcel : within(now.barrel, child, order)) counts[parcel[1]]++;
        return counts;
    }

    public int likes(int child, int kind, int what) {
        if (noChild(child) || noKind(kind)) return -1;
        return switch (what) {
            case 0 -> text.worthTo(child, kind);
            case 1 -> now.had[child][kind];
            case 2 -> (int) countsWithin(child, LIE)[kind];
            default -> -1;
        };
    }

    private boolean better(int child, int kind, int than) {
        ModelText.Kind a = text.kinds.get(kind);
        ModelText.Kind b = text.kinds.get(than);
        return switch (text.children.get(child).rule()) {
            case 1 -> text.worthTo(child, kind) > text.worthTo(child, than);
            case 2 -> a.size() > b.size();
            case 3 -> a.size() < b.size();
            default -> false;
        };
    }

    /** Adds up, over every sequence of kinds touched, in how many ways it comes, under the kind taken. */
    private void touch(int child, long[] counts, int left, int taken, long ways, long[] sums) {
        if (left == 0) {
            sums[taken] += ways;
            return;
        }
        for (int k = 0; k < counts.length; k++) {
            if (counts[k] == 0) continue;
            int next = taken < 0 || better(child, k, taken) ? k : taken;
            touch(child, counts, left - 1, next, ways * counts[k], sums);
        }
    }

    private long[] takenWays(int child, int[] order) {
        long[] sums = new long[kindCount()];
        touch(child, countsWithin(child, order), text.children.get(child).feels() + 1, -1, 1, sums);
        return sums;
    }

    private static int milli(BigInteger part, BigInteger whole) {
        return part.multiply(BigInteger.valueOf(1000)).divide(whole).intValueExact();
    }

    private static BigInteger big(long n) {
        return BigInteger.valueOf(n);
    }

    /** What a dip is worth on the mean, times so many; -1 when nothing is within reach. */
    private int worth(int child, int[] order, int times) {
        long[] ways = takenWays(child, order);
        BigInteger sum = BigInteger.ZERO;
        long all = 0;
        for (int k = 0; k < ways.length; k++) {
            sum = sum.add(big(ways[k]).multiply(big(text.worthTo(child, k))));
            all += ways[k];
        }
        return all == 0 ? -1 : sum.multiply(big(times)).divide(big(all)).intValueExact();
    }

    public int likely(int child, int kind) {
        if (noChild(child) || noKind(kind)) return -1;
        long[] counts = countsWithin(child, LIE);
        long all = Arrays.stream(counts).sum();
        return all == 0 ? -1 : milli(big(counts[kind]), big(all));
    }

    public int takes(int child, int kind) {
        if (noChild(child) || noKind(kind)) return -1;
        long[] ways = takenWays(child, LIE);
        long all = Arrays.stream(ways).sum();
        return all == 0 ? -1 : milli(big(ways[kind]), big(all));
    }

    public int mean(int child) {
        return noChild(child) ? -1 : worth(child, LIE, 1000);
    }

    public int comes(int child, int price) {
        if (noChild(child) || price < 0 || price > 99) return -1;
        int worth = worth(child, LIE, 1);
        return worth >= 0 && price <= worth && price <= now.purse[child] ? 1 : 0;
    }

    public int price(int what) {
        if (what != 0 && what != 1) return -1;
        int best = 0;
        int most = -1;
        for (int p = 0; p < 100; p++) {
            int takings = 0;
            for (int c = 0; c < text.children.size(); c++) takings += p * comes(c, p);
            if (takings > most) {
                most = takings;
                best = p;
            }
        }
        return what == 0 ? best : most;
    }

    private void orders(int n, List<Integer> chosen, List<int[]> into) {
        if (chosen.size() == n) into.add(chosen.stream().mapToInt(i -> i).toArray());
        for (int i = 0; i < n; i++) {
            if (chosen.contains(i)) continue;
            chosen.add(i);
            orders(n, chosen, into);
            chosen.remove(chosen.size() - 1);
        }
    }

    public int laid(int child, int k) {
        if (noChild(child) || k != -1 && noLayer(k) || all(now.barrel) == 0) return -1;
        List<int[]> orders = new ArrayList<>();
        orders(text.layers.size(), new ArrayList<>(), orders);
        int most = -1;
        int[] best = null;
        for (int[] order : orders) {
            int worth = worth(child, order, 1000);
            if (worth > most) {
                most = worth;
                best = order;
            }
        }
        return k == -1 ? most : best[k];
    }

    private int cost() {
        if (text.costs == null) return 0;
        long cost = text.costs.of(new long[] {now.hour, all(now.barrel), now.dips, 0, 0, 0});
        return (int) (cost < 0 ? 0 : cost > 99 ? 99 : cost);
    }

    private int draw(int m) {
        seed = big(1103515245).multiply(big(seed)).add(big(12345)).mod(big(1L << 31)).longValueExact();
        return (int) (seed / 64 % m);
    }

    private boolean can(int child) {
        return !noChild(child) && now.purse[child] >= cost() && !within(now.barrel, child, LIE).isEmpty();
    }

    private int doDip(int child) {
        int cost = cost();
        List<int[]> parcels = within(now.barrel, child, LIE);
        List<int[]> touched = new ArrayList<>();
        for (int n = 0; n <= text.children.get(child).feels(); n++) touched.add(parcels.get(draw(parcels.size())));
        int[] taken = touched.get(0);
        for (int[] t : touched) if (better(child, t[1], taken[1])) taken = t;
        int sum = parcels.stream().mapToInt(p -> text.worthTo(child, p[1])).sum();
        long[] seen = {now.hour, all(now.barrel), now.dips, text.worthTo(child, taken[1]), text.kinds.get(taken[1]).size(), sum / parcels.size()};
        if (text.puts != null && text.puts.of(seen) == 1) taken = parcels.get(draw(parcels.size()));
        now.purse[child] -= cost;
        now.barrel[taken[0]][taken[1]]--;
        now.had[child][taken[1]]++;
        now.dips++;
        now.kept.add(new int[] {child, taken[1], now.hour, cost});
        return taken[1];
    }

    private void act() {
        before.add(now.copy());
        if (before.size() > 20) before.remove(0);
    }

    public int dip(int child) {
        if (!can(child)) return no(2);
        act();
        return doDip(child);
    }

    public int hour() {
        if (now.hour == 99) return no(3);
        act();
        return ++now.hour;
    }

    public int put(int layer, int kind, int n) {
        if (noLayer(layer) || noKind(kind) || n < 1 || n > 30 || now.barrel[layer][kind] + n > 99) return no(3);
        act();
        return now.barrel[layer][kind] += n;
    }

    private boolean hasOne(int child, int kind) {
        return !noChild(child) && !noKind(kind) && now.had[child][kind] > 0;
    }

    public boolean back(int child, int kind) {
        if (!hasOne(child, kind) || now.barrel.length == 0 || now.barrel[0][kind] > 98) return nay(3);
        act();
        now.had[child][kind]--;
        now.barrel[0][kind]++;
        return true;
    }

    public boolean swap(int child, int kind, int other, int his) {
        if (!hasOne(child, kind) || !hasOne(other, his) || child == other) return nay(3);
        act();
        now.had[child][kind]--;
        now.had[other][his]--;
        now.had[child][his]++;
        now.had[other][kind]++;
        return true;
    }

    public int afternoon(int n) {
        if (n < 1 || n > 20) return no(3);
        act();
        int dips = 0;
        boolean any = true;
        for (int round = 0; round < n && any; round++) {
            any = false;
            for (int c = 0; c < text.children.size(); c++) {
                if (!can(c) || cost() > worth(c, LIE, 1)) continue;
                doDip(c);
                any = true;
                dips++;
            }
            now.hour = Math.min(99, now.hour + 1);
        }
        return dips;
    }

    public boolean undo() {
        if (before.isEmpty()) return nay(4);
        now = before.remove(before.size() - 1);
        return true;
    }

    public boolean seed(int seed) {
        if (seed < 0) return nay(5);
        this.seed = seed;
        return true;
    }

    private List<int[]> toldKept() {
        int n = now.kept.size();
        return now.kept.subList(Math.max(0, n - 60), n);
    }

    public int kept(int k, int what) {
        if (k < 0 || k >= toldKept().size() || what < 0 || what > 3) return -1;
        return toldKept().get(k)[what];
    }

    public int row() {
        int[] b = takeTape();
        boolean fine = b.length >= 2 && b.length <= 40 && b.length % 2 == 0;
        for (int i = 0; fine && i < b.length; i += 2) fine = !noChild(b[i]) && !noKind(b[i + 1]);
        if (!fine) return no(5);
        rowLeft = deep(now.barrel);
        for (int i = 0; i < b.length; i += 2) {
            int kind = b[i + 1];
            int[] first = within(rowLeft, b[i], LIE).stream().filter(p -> p[1] == kind).findFirst().orElse(null);
            if (first == null) return i / 2;
            rowLeft[first[0]][kind]--;
        }
        return b.length / 2;
    }

    public int leaves(int layer, int kind) {
        return rowLeft == null || noLayer(layer) || noKind(kind) ? -1 : rowLeft[layer][kind];
    }

    public int ring(int child, int what) {
        if (noChild(child) || Arrays.stream(now.had[child]).sum() == 0 || what < 0 || what > 2) return -1;
        int n = text.children.size();
        int[] offer = new int[n];
        List<Integer> left = new ArrayList<>();
        for (int c = 0; c < n; c++) {
            int worst = 1000;
            for (int k = 0; k < kindCount(); k++) {
                if (now.had[c][k] > 0 && text.worthTo(c, k) < worst) {
                    worst = text.worthTo(c, k);
                    offer[c] = k;
                }
            }
            if (worst < 1000) left.add(c);
        }
        if (what == 1) return offer[child];
        for (int round = 1; ; round++) {
            int[] points = new int[n];
            for (int c : left) {
                int most = left.stream().mapToInt(o -> text.worthTo(c, offer[o])).max().getAsInt();
                points[c] = text.worthTo(c, offer[c]) == most ? c
                        : left.stream().filter(o -> text.worthTo(c, offer[o]) == most).findFirst().get();
            }
            List<Integer> leaving = new ArrayList<>();
            for (int c : left) {
                List<Integer> path = new ArrayList<>();
                for (int at = points[c]; !path.contains(at); at = points[at]) path.add(at);
                if (path.contains(c)) leaving.add(c);
            }
            if (leaving.contains(child)) return what == 0 ? points[child] : round;
            left.removeAll(leaving);
        }
    }

    private static void two(List<Integer> into, int n) {
        into.add(n / 256);
        into.add(n % 256);
    }

    private static int check(List<Integer> bytes) {
        int c = 109;
        for (int b : bytes) c = (5 * c + b) % 251;
        return c;
    }

    public int image() {
        image = new ArrayList<>();
        image.add(now.hour);
        two(image, now.dips);
        for (int[] layer : now.barrel) for (int n : layer) image.add(n);
        for (int c = 0; c < now.purse.length; c++) {
            two(image, now.purse[c]);
            for (int n : now.had[c]) two(image, n);
        }
        image.add(check(image));
        return image.size();
    }

    public int octet(int k) {
        return k < 0 || k >= image.size() ? -1 : image.get(k);
    }

    public boolean on() {
        List<Integer> b = new ArrayList<>(tape);
        tape.clear();
        int size = 4 + now.barrel.length * kindCount() + now.purse.length * (2 + 2 * kindCount());
        if (b.size() != size || check(b.subList(0, size - 1)) != b.get(size - 1)) return nay(5);
        State s = new State();
        s.hour = b.remove(0);
        s.dips = b.remove(0) * 256 + b.remove(0);
        if (s.hour > 99 || s.dips > 9999) return nay(5);
        s.barrel = deep(now.barrel);
        s.purse = now.purse.clone();
        s.had = deep(now.had);
        for (int[] layer : s.barrel) {
            for (int k = 0; k < layer.length; k++) {
                layer[k] = b.remove(0);
                if (layer[k] > 99) return nay(5);
            }
        }
        for (int c = 0; c < s.purse.length; c++) {
            s.purse[c] = b.remove(0) * 256 + b.remove(0);
            if (s.purse[c] > 999) return nay(5);
            for (int k = 0; k < kindCount(); k++) {
                s.had[c][k] = b.remove(0) * 256 + b.remove(0);
                if (s.had[c][k] > 9999) return nay(5);
            }
        }
        now = s;
        before.clear();
        return true;
    }

    public int status(int what) {
        return what < 0 || what > 5 ? -1 : refused[what];
    }
}
