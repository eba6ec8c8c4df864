import java.util.ArrayList;
import java.util.List;

/** Promises 18 to 26: dip, hour, put, back, swap, afternoon, undo, seed, kept. */
public final class ActsTest {
    private static final Due due = new Due();
    private static final String TWO = "kind a worth 5 size 2;kind b worth 3 size 9;layer a 4 b 4;layer b 2;"
            + "child p reach 1 feels 0 first;child q reach 2 feels 0 first;";

    public static void main(String[] args) {
        draws();
        touching();
        puttingBack();
        floorOfMean();
        paying();
        dipsRefused();
        hours();
        puts();
        backs();
        swaps();
        swapsOfMany();
        afternoons();
        afternoonsComing();
        undoing();
        undoingTwenty();
        seeds();
        keeping();
        keepingBehindUndo();
        due.close();
    }

    /** The draws of a seed, as the document tells them. */
    private static int[] draws(long seed, int... of) {
        int[] draws = new int[of.length];
        long x = seed;
        for (int i = 0; i < of.length; i++) {
            x = (1103515245L * x + 12345L) % (1L << 31);
            draws[i] = (int) (x / 64 % of[i]);
        }
        return draws;
    }

    /** Layer by layer from above, kind by kind in it. */
    private static void draws() {
        for (int seed = 0; seed < 200; seed++) {
            BranTub tub = Due.tub("kind a worth 1 size 1;kind b worth 1 size 1;layer b 2 a 1;layer a 3;child p reach 2 feels 0 first;");
            tub.seed(seed);
            int drawn = draws(seed, 6)[0];
            int kind = drawn == 1 || drawn == 2 ? 1 : 0;
            due.is("kind of draw " + drawn, kind, tub.dip(0));
            due.is("layer of draw " + drawn, drawn < 3 ? 2 : 3, tub.layer(0, -1));
            due.is("lower layer of draw " + drawn, drawn < 3 ? 3 : 2, tub.layer(1, -1));
            due.is("has it", 1, tub.likes(0, kind, 1));
            due.is("dips", 1, tub.has(5));
        }
    }

    private static int best(String rule, int[] touched) {
        int[] worth = {5, 9, 5, 9};
        int[] size = {3, 3, 1, 8};
        int taken = touched[0];
        for (int t : touched) {
            boolean better = switch (rule) {
                case "best" -> worth[t] > worth[taken];
                case "large" -> size[t] > size[taken];
                case "small" -> size[t] < size[taken];
                default -> false;
            };
            if (better) taken = t;
        }
        return taken;
    }

    /** All are touched by draws, whatever the rule; of like ones the first touched is taken. */
    private static void touching() {
        for (String rule : new String[] {"first", "best", "large", "small"}) {
            for (int feels = 0; feels < 4; feels++) {
                BranTub tub = new BranTub();
                for (int seed = 0; seed < 60; seed++) {
                    Due.fete(tub, "kind a worth 5 size 3;kind b worth 1 size 3;kind c worth 5 size 1;kind d worth 9 size 8;"
                            + "layer a 1 b 1 c 1 d 1;child p reach 1 feels " + feels + " " + rule + ";likes p b 9;");
                    tub.seed(seed);
                    int[] of = new int[feels + 2];
                    java.util.Arrays.fill(of, 4);
                    int[] draws = draws(seed, of);
                    int want = best(rule, java.util.Arrays.copyOf(draws, feels + 1));
                    due.is(rule + " feels " + feels + " seed " + seed, want, tub.dip(0));
                    // the next draw tells how many there were: three parcels are left
                    long x = seed;
                    for (int i = 0; i <= feels; i++) x = (1103515245L * x + 12345L) % (1L << 31);
                    due.is("seed behind it", x, tub.has(11));
                }
            }
        }
    }

    /** What is let go may be touched again, and is not asked for again. */
    private static void puttingBack() {
        BranTub tub = new BranTub();
        for (int seed = 0; seed < 120; seed++) {
            Due.fete(tub, "kind a worth 1 size 1;kind b worth 8 size 1;layer a 2 b 1;child p reach 1 feels 0 best;puts worth<mean;");
            tub.seed(seed);
            int[] draws = draws(seed, 3, 3);
            boolean lets = draws[0] < 2;
            int drawn = lets ? draws[1] : draws[0];
            due.is("lets go, seed " + seed, drawn < 2 ? 0 : 1, tub.dip(0));
            due.is("one dip", 1, tub.has(5));
            due.is("one is gone", 2, tub.has(4));
        }
        // as all is then: the parcel in the barrel, the dip not counted, the purse's coins no matter
        for (String test : new String[] {"left=6", "dips=0", "hour=0", "size=2", "worth=7", "mean=7"}) {
            BranTub other = Due.tub("kind a worth 5 size 2;layer a 4;layer a 2;child p reach 1 feels 0 first;likes p a 7;puts " + test + ";costs 9;");
            other.dip(0);
            long x = 1;
            for (int i = 0; i < 2; i++) x = (1103515245L * x + 12345L) % (1L << 31);
            due.is("puts " + test, x, other.has(11));
        }
    }

    /** The floor of what those within reach are worth to him, not of a dip's worth. */
    private static void floorOfMean() {
        for (int mean = 3; mean < 7; mean++) {
            BranTub tub = Due.tub("kind a worth 5 size 2;kind b worth 1 size 2;layer a 2 b 1;layer a 9;child p reach 1 feels 2 best;likes p b 4;puts mean=" + mean + ";");
            tub.dip(0);
            long x = 1;
            for (int i = 0; i < (mean == 4 ? 4 : 3); i++) x = (1103515245L * x + 12345L) % (1L << 31);
            due.is("puts mean=" + mean, x, tub.has(11));
        }
    }

    private static void paying() {
        BranTub tub = Due.tub(TWO + "purse 9;costs 1+dips*2+(10-left)*10+hour;");
        due.is("costs", 1, tub.has(6));
        tub.dip(1);
        due.is("paid", 8, tub.child(1, 3));
        due.is("costs then", 13, tub.has(6));
        due.is("too dear", -1, tub.dip(1));
        due.is("the other has no more", -1, tub.dip(0));
        BranTub dear = Due.tub(TWO + "purse 999;costs 0-5;");
        dear.dip(0);
        due.is("never below 0", 999, dear.child(0, 3));
        BranTub most = Due.tub(TWO + "purse 100;costs 9999;");
        most.dip(0);
        due.is("never above 99", 1, most.child(0, 3));
        BranTub just = Due.tub(TWO + "purse 5;costs 5;");
        due.is("just enough", false, just.dip(0) == -1);
        due.is("purse", 0, just.child(0, 3));
        due.is("not enough", -1, just.dip(0));
    }

    private static void dipsRefused() {
        BranTub tub = Due.tub("kind a worth 5 size 2;layer a 1;child p reach 1 feels 2 best;purse 3;costs dips*9;");
        tub.seed(5);
        for (int no : new int[] {-1, 1, Integer.MAX_VALUE, Integer.MIN_VALUE}) due.is("no child " + no, -1, tub.dip(no));
        due.is("refused", 4, tub.status(2));
        due.is("the seed stays", 5, tub.has(11));
        due.is("no act", 0, tub.has(10));
        due.is("one", 0, tub.dip(0));
        due.is("nothing within reach", -1, tub.dip(0));
        due.is("refused", 5, tub.status(2));
        tub.put(0, 0, 1);
        due.is("purse has not so much", -1, tub.dip(0));
        due.is("refused", 6, tub.status(2));
        due.is("no act", 2, tub.has(10));
        due.is("all else is not refused", 0, tub.status(3) + tub.status(0) + tub.status(1) + tub.status(4) + tub.status(5));
    }

    private static void hours() {
        BranTub tub = new BranTub();
        for (int hour = 1; hour <= 99; hour++) due.is("hour", hour, tub.hour());
        due.is("hour 99", -1, tub.hour());
        due.is("refused", 1, tub.status(3));
        due.is("it stays", 99, tub.has(3));
        tub.undo();
        due.is("hour 98", 98, tub.has(3));
        due.is("hour again", 99, tub.hour());
        due.is("an afternoon in hour 99", 0, tub.afternoon(1));
        due.is("not beyond", 99, tub.has(3));
    }

    private static void puts() {
        BranTub tub = Due.tub(TWO);
        due.is("put", 5, tub.put(0, 0, 1));
        due.is("put of none there", 30, tub.put(1, 0, 30));
        due.is("put", 60, tub.put(1, 0, 30));
        due.is("put", 90, tub.put(1, 0, 30));
        due.is("put more than 99", -1, tub.put(1, 0, 10));
        due.is("it stays", 90, tub.layer(1, 0));
        due.is("put 99", 99, tub.put(1, 0, 9));
        due.is("put more than 99", -1, tub.put(1, 0, 1));
        for (int n : new int[] {0, -1, 31, Integer.MAX_VALUE, Integer.MIN_VALUE}) due.is("put n " + n, -1, tub.put(0, 1, n));
        for (int no : new int[] {-1, 2, Integer.MAX_VALUE, Integer.MIN_VALUE}) {
            due.is("no layer", -1, tub.put(no, 0, 1));
            due.is("no kind", -1, tub.put(0, no, 1));
        }
        due.is("refused", 15, tub.status(3));
        due.is("acts", 5, tub.has(10));
    }

    private static void backs() {
        BranTub tub = Due.tub("kind a worth 5 size 2;kind b worth 5 size 2;layer b 1;layer a 2;child p reach 2 feels 0 first;child q reach 2 feels 0 first;");
        due.is("none had", false, tub.back(0, 0));
        for (int n = 0; n < 3; n++) tub.dip(0);
        due.is("back", true, tub.back(0, 0));
        due.is("into the uppermost", 1, tub.layer(0, 0));
        due.is("not where it was", 0, tub.layer(1, 0));
        due.is("one less", 1, tub.likes(0, 0, 1));
        due.is("another's", false, tub.back(1, 0));
        for (int no : new int[] {-1, 2, Integer.MAX_VALUE, Integer.MIN_VALUE}) {
            due.is("no child", false, tub.back(no, 0));
            due.is("no kind", false, tub.back(0, no));
        }
        for (int n = 0; n < 3; n++) tub.put(0, 0, 30);
        tub.put(0, 0, 8);
        due.is("99 lie uppermost", false, tub.back(0, 0));
        due.is("refused", 11, tub.status(3));
        due.is("another kind", true, tub.back(0, 1));
        BranTub none = Due.tub("kind a worth 5 size 2;child p reach 2 feels 0 first;");
        due.is("an image", true, Due.on(none, 0, 0, 0, 0, 9, 0, 3));
        due.is("has three", 3, none.likes(0, 0, 1));
        due.is("no layers", false, none.back(0, 0));
        due.is("refused", 1, none.status(3));
    }

    private static void swaps() {
        BranTub tub = Due.tub("kind a worth 5 size 2;kind b worth 5 size 2;layer a 1;layer b 1;child p reach 1 feels 0 first;child q reach 1 feels 0 first;");
        due.is("none had", false, tub.swap(0, 0, 1, 1));
        tub.dip(0);
        due.is("one has none", false, tub.swap(0, 0, 1, 1));
        tub.dip(1);
        due.is("himself", false, tub.swap(0, 0, 0, 0));
        due.is("not his", false, tub.swap(0, 1, 1, 1));
        due.is("not his", false, tub.swap(0, 0, 1, 0));
        due.is("swap", true, tub.swap(0, 0, 1, 1));
        due.is("given", 0, tub.likes(0, 0, 1));
        due.is("got", 1, tub.likes(0, 1, 1));
        due.is("given", 0, tub.likes(1, 1, 1));
        due.is("got", 1, tub.likes(1, 0, 1));
        for (int no : new int[] {-1, 2, Integer.MAX_VALUE, Integer.MIN_VALUE}) {
            due.is("no child", false, tub.swap(no, 1, 1, 0));
            due.is("no kind", false, tub.swap(0, no, 1, 0));
            due.is("no other", false, tub.swap(0, 1, no, 0));
            due.is("no kind of his", false, tub.swap(0, 1, 1, no));
        }
        due.is("refused", 21, tub.status(3));
        due.is("acts", 3, tub.has(10));
        tub.undo();
        due.is("undone", 1, tub.likes(0, 0, 1));
        tub.put(0, 0, 2);
        tub.back(1, 1);
        while (tub.likes(1, 0, 1) == 0) tub.dip(1);
        due.is("like kinds", true, tub.swap(0, 0, 1, 0));
        due.is("as it was", 1, tub.likes(0, 0, 1));
    }

    /** The second and the third child, the second and the third kind. */
    private static void swapsOfMany() {
        BranTub tub = Due.tub("kind a worth 5 size 2;kind b worth 5 size 2;kind c worth 5 size 2;layer a 1;layer b 1;layer c 1;"
                + "child p reach 1 feels 0 first;child q reach 1 feels 0 first;child r reach 1 feels 0 first;");
        for (int child = 0; child < 3; child++) tub.dip(child);
        due.is("swap", true, tub.swap(1, 1, 2, 2));
        for (int child = 0; child < 3; child++) {
            int has = child == 0 ? 0 : 3 - child;
            for (int kind = 0; kind < 3; kind++) due.is("child " + child + " kind " + kind, kind == has ? 1 : 0, tub.likes(child, kind, 1));
        }
    }

    private static void afternoons() {
        BranTub tub = Due.tub("kind a worth 5 size 2;layer a 9;child p reach 1 feels 0 first;child q reach 1 feels 0 first;costs 2;purse 5;");
        due.is("one round", 2, tub.afternoon(1));
        due.is("an hour", 1, tub.has(3));
        due.is("one act", 1, tub.has(10));
        due.is("till nobody dips", 2, tub.afternoon(20));
        due.is("two rounds", 3, tub.has(3));
        due.is("numbers", 0, tub.kept(2, 0));
        due.is("numbers", 1, tub.kept(3, 0));
        due.is("hour of the dip", 1, tub.kept(3, 2));
        due.is("nobody at all", 0, tub.afternoon(20));
        due.is("one round", 4, tub.has(3));
        due.is("undo", true, tub.undo());
        due.is("undo", true, tub.undo());
        due.is("the hour is back", 1, tub.has(3));
        due.is("the dips are back", 2, tub.has(5));
        for (int n : new int[] {0, -1, 21, Integer.MAX_VALUE, Integer.MIN_VALUE}) due.is("rounds " + n, -1, tub.afternoon(n));
        due.is("refused", 5, tub.status(3));
        BranTub late = Due.tub("kind a worth 5 size 2;layer a 9;child p reach 1 feels 0 first;");
        due.is("20 rounds", 9, late.afternoon(20));
        due.is("nine rounds and one", 10, late.has(3));
        BranTub end = Due.tub("kind a worth 5 size 2;layer a 30;child p reach 1 feels 0 first;");
        for (int n = 0; n < 98; n++) end.hour();
        due.is("three rounds", 3, end.afternoon(3));
        due.is("not beyond 99", 99, end.has(3));
        due.is("hour of the second", 99, end.kept(1, 2));
        due.is("hour of the third", 99, end.kept(2, 2));
    }

    /** He comes if what it costs then is not above the floor of its worth to him then. */
    private static void afternoonsComing() {
        BranTub tub = Due.tub("kind a worth 9 size 2;kind b worth 4 size 2;layer a 1 b 1;"
                + "child p reach 1 feels 0 first;child q reach 1 feels 0 first;likes q a 9;likes q b 5;costs 7;purse 50;");
        due.is("mean of p", 6500, tub.mean(0));
        due.is("mean of q", 7000, tub.mean(1));
        due.is("q alone", 1, tub.afternoon(1));
        due.is("it was q", 1, tub.kept(0, 0));
        BranTub rising = Due.tub("kind a worth 5 size 2;layer a 30;"
                + "child p reach 1 feels 0 first;child q reach 1 feels 0 first;child r reach 1 feels 0 first;costs dips+hour*3;purse 99;");
        due.is("costs 0, 1, 2 then 6", 3, rising.afternoon(20));
        due.is("two rounds", 2, rising.has(3));
        due.is("paid then", 2, rising.kept(2, 3));
        BranTub emptied = Due.tub("kind a worth 5 size 2;layer a 1;child p reach 1 feels 0 first;child q reach 1 feels 0 first;");
        due.is("one parcel", 1, emptied.afternoon(1));
    }

    private static List<Integer> state(BranTub tub) {
        List<Integer> all = new ArrayList<>();
        for (int what = 0; what < 10; what++) all.add(tub.has(what));
        int length = tub.image();
        for (int k = 0; k < length; k++) all.add(tub.octet(k));
        all.addAll(keptOf(tub));
        return all;
    }

    private static void undoing() {
        BranTub tub = Due.tub(TWO + "costs 1;");
        due.is("none can be", false, tub.undo());
        due.is("refused", 1, tub.status(4));
        List<List<Integer>> before = new ArrayList<>();
        for (int n = 0; n < 18; n++) {
            before.add(state(tub));
            boolean done = switch (n % 6) {
                case 0, 1 -> tub.dip(n % 2) >= 0;
                case 2 -> tub.swap(0, kindOf(tub, 0), 1, kindOf(tub, 1));
                case 3 -> tub.hour() > 0;
                case 4 -> tub.put(1, 1, 3) > 0;
                default -> n < 12 ? tub.back(0, kindOf(tub, 0)) : tub.afternoon(2) > 0;
            };
            due.is("act " + n, true, done);
            due.is("can be undone", n + 1, tub.has(10));
        }
        long seed = tub.has(11);
        for (int n = 17; n >= 0; n--) {
            due.is("undo", true, tub.undo());
            due.is("as it was ahead of act " + n, true, before.get(n).equals(state(tub)));
            due.is("but the seed", seed, tub.has(11));
            due.is("can be undone", n, tub.has(10));
        }
        due.is("none can be", false, tub.undo());
        due.is("refused", 2, tub.status(4));
    }

    private static int kindOf(BranTub tub, int child) {
        return tub.likes(child, 0, 1) > 0 ? 0 : 1;
    }

    private static void undoingTwenty() {
        BranTub tub = new BranTub();
        for (int n = 1; n <= 25; n++) {
            tub.hour();
            due.is("can be undone", Math.min(n, 20), tub.has(10));
        }
        for (int n = 24; n >= 5; n--) {
            due.is("undo", true, tub.undo());
            due.is("hour", n, tub.has(3));
        }
        due.is("no more than twenty", false, tub.undo());
        due.is("it stays", 5, tub.has(3));
        tub.hour();
        due.is("one", 1, tub.has(10));
        tub.seed(4);
        due.is("a seed is no act", 1, tub.has(10));
    }

    private static void seeds() {
        BranTub tub = new BranTub();
        due.is("seed 0", true, tub.seed(0));
        due.is("it is 0", 0, tub.has(11));
        due.is("the greatest", true, tub.seed(Integer.MAX_VALUE));
        due.is("it is", Integer.MAX_VALUE, tub.has(11));
        due.is("below 0", false, tub.seed(-1));
        due.is("below 0", false, tub.seed(Integer.MIN_VALUE));
        due.is("it stays", Integer.MAX_VALUE, tub.has(11));
        due.is("refused", 2, tub.status(5));
        Due.fete(tub, "kind a worth 5 size 2;layer a 9;child p reach 1 feels 0 first;");
        tub.dip(0);
        due.is("behind a draw", (1103515245L * Integer.MAX_VALUE + 12345L) % (1L << 31), tub.has(11));
    }

    private static void keeping() {
        BranTub tub = Due.tub("kind a worth 5 size 2;kind b worth 5 size 2;layer a 30;layer b 30;layer a 30;child p reach 1 feels 0 first;child q reach 1 feels 0 first;purse 999;costs dips%7;");
        for (int n = 0; n < 64; n++) {
            due.is("told", Math.min(60, n), tub.has(9));
            tub.dip(n % 3 == 0 ? 1 : 0);
            if (n % 10 == 9) tub.hour();
        }
        due.is("told", 60, tub.has(9));
        due.is("dips", 64, tub.has(5));
        for (int k = 0; k < 60; k++) {
            int n = k + 4;
            due.is("child of " + k, n % 3 == 0 ? 1 : 0, tub.kept(k, 0));
            due.is("kind of " + k, n < 30 || n >= 60 ? 0 : 1, tub.kept(k, 1));
            due.is("hour of " + k, n / 10, tub.kept(k, 2));
            due.is("cost of " + k, n % 7, tub.kept(k, 3));
        }
        for (int no : new int[] {-1, 60, 64, Integer.MAX_VALUE, Integer.MIN_VALUE}) due.is("no dip " + no, -1, tub.kept(no, 0));
        for (int no : new int[] {-1, 4, Integer.MAX_VALUE, Integer.MIN_VALUE}) due.is("others " + no, -1, tub.kept(0, no));
    }

    /** What was told ahead of the sixty is told again when later dips are undone, 3200 at the most. */
    private static void keepingBehindUndo() {
        StringBuilder text = new StringBuilder();
        for (int i = 0; i < 8; i++) text.append("kind k").append((char) ('a' + i)).append(" worth 5 size 2;");
        for (int i = 0; i < 5; i++) text.append("layer ka 1;");
        for (int i = 0; i < 8; i++) text.append("child c").append((char) ('a' + i)).append(" reach 5 feels 0 first;");
        BranTub tub = Due.tub(text.toString());
        int[] image = new int[3 + 40 + 8 * 18];
        for (int i = 3; i < 43; i++) image[i] = 99;
        due.is("a full barrel", true, Due.on(tub, image));
        due.is("eight rounds", 64, tub.afternoon(8));
        List<Integer> first = keptOf(tub);
        for (int round = 0; round < 3; round++) {
            for (int n = 0; n < 20; n++) due.is("an afternoon", 160, tub.afternoon(20));
            due.is("dips", 3264, tub.has(5));
            for (int n = 0; n < 20; n++) due.is("undo", true, tub.undo());
            due.is("told", 60, tub.has(9));
            due.is("dips", 64, tub.has(5));
            due.is("told again", true, first.equals(keptOf(tub)));
        }
    }

    private static List<Integer> keptOf(BranTub tub) {
        List<Integer> all = new ArrayList<>();
        for (int k = 0; k <= 60; k++) for (int what = 0; what < 4; what++) all.add(tub.kept(k, what));
        return all;
    }
}
