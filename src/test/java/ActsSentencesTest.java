/** Terms II and promises 18 to 26, sentence by sentence: what acts need, what they may not pass, what is undone. */
public final class ActsSentencesTest {
    private static final Due due = new Due();
    private static final int[] FAR = {-2, 100, Integer.MAX_VALUE, Integer.MIN_VALUE};
    private static final String P = "child p reach 1 feels 0 first;";
    private static final String Q = "child q reach 1 feels 0 first;";
    private static final String ONE = "kind a worth 5 size 2;layer a 9;" + P;
    private static final String TWO = "kind a worth 5 size 2;kind b worth 9 size 7;layer a 1;layer b 1;" + P + Q;

    public static void main(String[] args) {
        atFirst();
        seedsRemainder();
        drawing();
        paying();
        ruling();
        puttingBack();
        dipsRefused();
        hours();
        puts();
        backs();
        backUppermost();
        swaps();
        afternoonRounds();
        afternoonComing();
        afternoonHours();
        undoing();
        undoingEach();
        seeds();
        kept();
        keptInOrder();
        keptOfOthers();
        due.close();
    }

    private static long next(long seed) {
        return (1103515245L * seed + 12345L) % 2147483648L;
    }

    private static void atFirst() {
        due.says("At first it is HOUR 0, no CHILD has a parcel, each has his purse.");
        BranTub tub = Due.tub(TWO + "purse 7;");
        due.is("hour", 0, tub.has(3));
        for (int child = 0; child < 2; child++) {
            due.is("parcels", 0, tub.child(child, 4));
            due.is("purse", 7, tub.child(child, 3));
        }
        due.is("dips", 0, tub.has(5));
    }

    private static BranTub seeded(String text, int seed) {
        BranTub tub = Due.tub(text);
        tub.seed(seed);
        return tub;
    }

    private static void seedsRemainder() {
        due.says("x (the seed) becomes (1103515245 x + 12345) mod 2 to the 31");
        int[] seeds = {0, 1, 2, 65536, 1073741824, 2147483646, 2147483647};
        int[] behind = {12345, 1103527590, 59559187, 1315778617, 1073754169, 2087949151, 1043980748};
        for (int i = 0; i < seeds.length; i++) {
            BranTub tub = seeded(ONE, seeds[i]);
            tub.dip(0);
            due.is("behind seed " + seeds[i], behind[i], tub.has(11));
        }
        BranTub first = Due.tub(ONE);
        first.dip(0);
        due.is("behind a new object's", 1103527590, first.has(11));
        first.dip(0);
        due.is("and once more", 377401575, first.has(11));
    }

    private static void drawing() {
        due.says("floor(x / 64) mod m");
        // 12345 / 64 is 192.9, which 192 parcels make 0 and 193 make 192
        String wide = "kind a worth 5 size 2;kind b worth 5 size 2;layer a 1 b 1;" + P;
        BranTub even = Due.tub(wide);
        Due.on(even, 0, 0, 0, 96, 96, 0, 50, 0, 0, 0, 0);
        even.seed(0);
        due.is("192 mod 192", 0, even.dip(0));
        Due.on(even, 0, 0, 0, 97, 96, 0, 50, 0, 0, 0, 0);
        even.seed(0);
        due.is("192 mod 193", 1, even.dip(0));
        Due.on(even, 0, 0, 0, 97, 97, 0, 50, 0, 0, 0, 0);
        even.seed(0);
        due.is("192 mod 194 of 97 and 97", 1, even.dip(0));
        BranTub one = seeded("kind a worth 5 size 2;layer a 1;" + P, 3);
        due.is("mod 1", 0, one.dip(0));
        due.is("is a draw, too", next(3), one.has(11));
        due.says("LAYER by LAYER from above, KIND by KIND in it, by numbers");
        // the 12 parcels of the draws 0 .. 11: which kind, and in which layer
        String text = "kind a worth 5 size 2;kind b worth 5 size 2;kind c worth 5 size 2;layer c 2 a 1;layer b 3 a 2;layer c 1 b 3;child p reach 3 feels 0 first;";
        int[] kinds = {0, 2, 2, 0, 0, 1, 1, 1, 1, 1, 1, 2};
        int[] layers = {0, 0, 0, 1, 1, 1, 1, 1, 2, 2, 2, 2};
        boolean[] met = new boolean[12];
        for (int seed = 0; seed < 150; seed++) {
            BranTub tub = seeded(text, seed);
            int draw = (int) (next(seed) / 64 % 12);
            int was = tub.layer(layers[draw], kinds[draw]);
            due.is("kind of draw " + draw, kinds[draw], tub.dip(0));
            due.is("taken there, draw " + draw, was - 1, tub.layer(layers[draw], kinds[draw]));
            met[draw] = true;
        }
        for (int draw = 0; draw < 12; draw++) due.is("draw " + draw + " was met", true, met[draw]);
        due.says("each by a DRAW of all within reach");
        for (int seed = 0; seed < 40; seed++) {
            BranTub tub = seeded("kind a worth 5 size 2;kind b worth 5 size 2;layer a 1;layer a 1 b 1;layer b 9;child p reach 2 feels 0 first;", seed);
            due.is("of three, seed " + seed, next(seed) / 64 % 3 == 2 ? 1 : 0, tub.dip(0));
            due.is("the third layer is out of reach", 9, tub.layer(2, -1));
        }
    }

    private static void paying() {
        due.says("whose purse has what it costs");
        BranTub just = Due.tub(ONE + "costs 7;purse 7;");
        due.is("just enough", 0, just.dip(0));
        due.is("nothing is left of it", 0, just.child(0, 3));
        BranTub less = Due.tub(ONE + "costs 7;purse 6;");
        due.is("one too few", -1, less.dip(0));
        due.is("stays", 6, less.child(0, 3));
        BranTub none = Due.tub(ONE + "purse 0;");
        due.is("costs nothing, has nothing", 0, none.dip(0));
        due.says("and within whose reach a parcel is");
        BranTub far = Due.tub("kind a worth 5 size 2;layer a 1;layer a 1;layer a 1;" + P);
        for (int layer = 0; layer < 3; layer++) {
            due.is("the uppermost that has one", 0, far.dip(0));
            due.is("is taken from", 0, far.layer(layer, 0));
            due.is("there are left", 2 - layer, far.has(4));
        }
        due.is("none is left", -1, far.dip(0));
        due.says("it costs the SUM of costs, 0 .. 99 (0 without)");
        String[] sums = {"0-1", "0", "1", "98", "99", "100", "9999*9999", "0-9999*9999"};
        int[] paid = {0, 0, 1, 98, 99, 99, 99, 0};
        for (int i = 0; i < sums.length; i++) {
            BranTub tub = Due.tub(ONE + "purse 999;costs " + sums[i] + ";");
            tub.dip(0);
            due.is("costs " + sums[i], 999 - paid[i], tub.child(0, 3));
            due.is("kept of " + sums[i], paid[i], tub.kept(0, 3));
        }
        BranTub without = Due.tub(ONE);
        without.dip(0);
        due.is("without", 50, without.child(0, 3));
    }

    private static void ruling() {
        due.says("one may be touched again");
        BranTub one = seeded("kind a worth 5 size 2;layer a 1;child p reach 1 feels 3 best;", 11);
        due.is("the only one, four times", 0, one.dip(0));
        due.is("four draws", next(next(next(next(11)))), one.has(11));
        due.is("one is taken", 0, one.has(4));
        due.says("He TOUCHES one parcel, and as many more as he feels");
        for (int feels = 0; feels <= 3; feels++) {
            BranTub tub = seeded("kind a worth 5 size 2;layer a 9;child p reach 1 feels " + feels + " first;", 5);
            tub.dip(0);
            long x = 5;
            for (int n = 0; n <= feels; n++) x = next(x);
            due.is("feels " + feels, x, tub.has(11));
        }
        due.says("of like ones the first touched");
        for (String rule : new String[] {"first", "best", "large", "small"}) {
            for (int seed = 0; seed < 20; seed++) {
                BranTub tub = seeded("kind a worth 5 size 2;kind b worth 5 size 2;kind c worth 5 size 2;layer a 1 b 1 c 1;child p reach 1 feels 3 " + rule + ";", seed);
                due.is(rule + " of like ones, seed " + seed, next(seed) / 64 % 3, tub.dip(0));
            }
        }
        due.says("By his RULE he takes of those the first one touched");
        for (int seed = 0; seed < 30; seed++) {
            BranTub tub = seeded("kind a worth 9 size 4;kind b worth 1 size 5;kind c worth 5 size 3;layer a 1 b 1 c 1;child p reach 1 feels 3 first;", seed);
            due.is("the first of four, seed " + seed, next(seed) / 64 % 3, tub.dip(0));
        }
        due.says("the one that is worth most to him; the one of the greatest, of the least size");
        // of two draws each rule takes its kind if it was touched at all
        String[] rules = {"best", "large", "small"};
        for (int rule = 0; rule < 3; rule++) {
            for (int seed = 0; seed < 30; seed++) {
                BranTub tub = seeded("kind a worth 9 size 4;kind b worth 1 size 5;kind c worth 1 size 3;layer a 1 b 1 c 1;child p reach 1 feels 1 " + rules[rule] + ";", seed);
                int first = (int) (next(seed) / 64 % 3);
                int second = (int) (next(next(seed)) / 64 % 3);
                if (first == rule || second == rule) due.is(rules[rule] + ", seed " + seed, rule, tub.dip(0));
            }
        }
    }

    /** Whether he lets it go: then there is one draw more. */
    private static boolean lets(String text, String test) {
        BranTub tub = seeded(text + "puts " + test + ";", 1);
        tub.dip(0);
        boolean once = tub.has(11) == next(1);
        if (!once) due.is("one draw more, and no third", next(next(1)), tub.has(11));
        return !once;
    }

    private static void puttingBack() {
        due.says("never without");
        BranTub without = seeded(ONE, 1);
        without.dip(0);
        due.is("one draw", next(1), without.has(11));
        due.says("as all is then, the parcel in the barrel");
        String text = "kind a worth 5 size 2;layer a 6;layer a 4;" + P + "likes p a 7;costs 3;";
        for (String holds : new String[] {"left=10", "dips=0", "hour=0", "worth=7", "size=2", "mean=7"}) due.is(holds, true, lets(text, holds));
        for (String not : new String[] {"left=9", "left=6", "dips=1", "hour=1", "worth=5", "size=7", "mean=5", "not all"}) due.is(not, false, lets(text, not));
        due.says("the floor of what those within reach are worth to him on the mean");
        String mean = "kind a worth 5 size 2;kind b worth 0 size 2;layer a 3 b 1;layer a 30;" + P;
        due.is("15/4", true, lets(mean, "mean=3"));
        due.is("15/4", false, lets(mean, "mean=4"));
        due.is("16/4", true, lets(mean + "likes p b 1;", "mean=4"));
        due.is("19/4", true, lets(mean + "likes p b 4;", "mean=4"));
        due.is("20/4", true, lets(mean + "likes p b 5;", "mean=5"));
        due.is("of a single one", true, lets("kind a worth 5 size 2;layer a 1;" + P, "mean=5"));
        for (String rule : new String[] {"first", "best", "large", "small"}) {
            String felt = "kind a worth 9 size 4;kind b worth 1 size 5;layer a 1 b 1;child p reach 1 feels 3 " + rule + ";";
            BranTub tub = Due.tub(felt + "puts mean=5;");
            tub.dip(0);
            due.is("of all within reach, not of those taken, " + rule, next(next(next(next(next(1))))), tub.has(11));
        }
        due.says("in puts of the parcel that is taken: what it is worth to the CHILD, its size");
        for (String asks : new String[] {"worth=1", "size=5"}) {
            for (int seed = 0; seed < 30; seed++) {
                BranTub tub = seeded("kind a worth 3 size 4;kind b worth 8 size 5;layer a 1 b 1;child p reach 1 feels 1 best;likes p a 6;likes p b 1;puts " + asks + ";", seed);
                long second = next(next(seed));
                boolean bothB = next(seed) / 64 % 2 == 1 && second / 64 % 2 == 1;
                tub.dip(0);
                due.is("of what he takes by his RULE, " + asks + ", seed " + seed, bothB ? next(second) : second, tub.has(11));
            }
        }
        due.says("if the TEST of puts holds of it");
        String ab = "kind a worth 5 size 2;kind b worth 9 size 7;layer a 1 b 1;" + P;
        for (int seed = 0; seed < 30; seed++) {
            int first = (int) (next(seed) / 64 % 2);
            int more = (int) (next(next(seed)) / 64 % 2);
            due.is("a is let go, seed " + seed, first == 0 ? more : 1, seeded(ab + "puts size=2;", seed).dip(0));
            due.is("b is let go, seed " + seed, first == 1 ? more : 0, seeded(ab + "puts worth>5;", seed).dip(0));
        }
        due.says("BOTH { or BOTH }");
        due.is("and binds more", true, lets(ONE, "all or all and not all"));
        due.is("and binds more", true, lets(ONE, "not all and all or all"));
        due.is("[ ] binds most", false, lets(ONE, "not all and [all or all]"));
        due.is("neither", false, lets(ONE, "not all or not all"));
        due.is("three", true, lets(ONE, "not all or not all or all"));
        due.says("FACT { and FACT }");
        due.is("both", true, lets(ONE, "all and all"));
        due.is("one", false, lets(ONE, "all and not all"));
        due.is("three", false, lets(ONE, "all and all and not all"));
        due.is("not of the first alone", false, lets(ONE, "not all and not all and all"));
        due.is("not of one fact", false, lets(ONE, "not 1=1 and 1=1"));
        due.is("not not", true, lets(ONE, "not not all"));
        due.says("SUM SIGN SUM, SIGN < or > or =");
        due.is("2<3", true, lets(ONE, "2<3"));
        due.is("3<3", false, lets(ONE, "3<3"));
        due.is("3<2", false, lets(ONE, "3<2"));
        due.is("3>2", true, lets(ONE, "3>2"));
        due.is("3>3", false, lets(ONE, "3>3"));
        due.is("2>3", false, lets(ONE, "2>3"));
        due.is("3=3", true, lets(ONE, "3=3"));
        due.is("2=3", false, lets(ONE, "2=3"));
        due.is("not 2<3", false, lets(ONE, "not 2<3"));
        due.is("not 3>2", false, lets(ONE, "not 3>2"));
        due.is("not 3=3", false, lets(ONE, "not 3=3"));
        due.is("not 3<2", true, lets(ONE, "not 3<2"));
        due.is("all three", true, lets(ONE, "2<3 and 3>2 and 3=3 and all"));
        due.is("3=2", false, lets(ONE, "3=2"));
        due.is("sums too great are alike", true, lets(ONE, "9999*9999=9999*9998"));
        due.is("sums too small are alike", true, lets(ONE, "0-9999*9999-1=0-9999*9999"));
        due.says("takes the one that he touches by one DRAW more (without asking again)");
        for (int seed = 0; seed < 30; seed++) {
            BranTub tub = seeded("kind a worth 5 size 2;kind b worth 1 size 2;layer a 2 b 2;child p reach 1 feels 1 best;puts all;", seed);
            int drawn = (int) (next(next(next(seed))) / 64 % 4);
            due.is("of all four, seed " + seed, drawn < 2 ? 0 : 1, tub.dip(0));
            due.is("three draws", next(next(next(seed))), tub.has(11));
            due.is("what was let go is there", 3, tub.has(4));
        }
        BranTub one = seeded("kind a worth 5 size 2;layer a 1;" + P + "puts all;", 1);
        due.is("the only one again", 0, one.dip(0));
        due.says("What he takes he HAS; it is a dip.");
        due.is("has it", 1, one.likes(0, 0, 1));
        due.is("one dip", 1, one.has(5));
        due.is("one is kept", 1, one.has(9));
        due.is("one act", 1, one.has(10));
        BranTub others = Due.tub(Due.many(8, "kind k# worth 1 size 1;") + "layer kh 9;" + Due.many(8, "child c# reach 1 feels 0 first;"));
        for (int child = 7; child >= 0; child--) {
            due.is("the eighth kind", 7, others.dip(child));
            for (int other = 0; other < 8; other++) due.is("child " + other, other >= child ? 1 : 0, others.likes(other, 7, 1));
        }
    }

    private static void dipsRefused() {
        due.says("A DIP: the KIND taken; NONE, refused (2), when there is none such, his purse has not so much, or nothing is WITHIN REACH.");
        BranTub tub = seeded("kind a worth 5 size 2;layer a 2;" + P + Q + "purse 3;costs dips*3;", 6);
        due.is("child 2", -1, tub.dip(2));
        due.is("child -1", -1, tub.dip(-1));
        for (int no : FAR) due.is("far off", -1, tub.dip(no));
        due.is("refused", 6, tub.status(2));
        due.is("costs 0", 0, tub.dip(0));
        due.is("costs 3", 0, tub.dip(0));
        due.is("nothing within reach", -1, tub.dip(1));
        due.is("refused", 7, tub.status(2));
        tub.put(0, 0, 1);
        due.is("costs 6, has 3", -1, tub.dip(1));
        due.is("costs 6, has 0", -1, tub.dip(0));
        due.is("refused", 9, tub.status(2));
        due.is("no draw of these", next(next(6)), tub.has(11));
        due.is("no act of these", 3, tub.has(10));
        due.is("no dip of these", 2, tub.has(5));
        due.is("nothing paid", 3, tub.child(1, 3));
        due.is("nothing else is refused", 0, tub.status(0) + tub.status(1) + tub.status(3) + tub.status(4) + tub.status(5));
        BranTub none = new BranTub();
        due.is("no child at all", -1, none.dip(0));
        due.is("refused", 1, none.status(2));
        BranTub bare = Due.tub("kind a worth 5 size 2;" + P);
        due.is("no layers", -1, bare.dip(0));
        due.is("refused", 1, bare.status(2));
    }

    private static void hours() {
        due.says("An HOUR goes by: the HOUR then; NONE, refused (3), in HOUR 99.");
        BranTub tub = new BranTub();
        due.is("1", 1, tub.hour());
        Due.on(tub, 97, 0, 0);
        due.is("98", 98, tub.hour());
        due.is("99", 99, tub.hour());
        due.is("no more", -1, tub.hour());
        due.is("no more", -1, tub.hour());
        due.is("refused", 2, tub.status(3));
        due.is("stays", 99, tub.has(3));
        due.is("acts", 2, tub.has(10));
    }

    private static void puts() {
        due.says("n parcels (1 .. 30) of a KIND are put into a LAYER: how many it then has of it");
        BranTub tub = Due.tub(TWO);
        due.is("1", 2, tub.put(0, 0, 1));
        due.is("30", 32, tub.put(0, 0, 30));
        due.is("of a kind that was not there", 30, tub.put(0, 1, 30));
        due.is("the lower layer", 2, tub.put(1, 1, 1));
        due.is("in the barrel", 64, tub.has(4));
        due.says("NONE, refused (3), when that can't be, or it would have more than 99.");
        due.is("0", -1, tub.put(0, 0, 0));
        due.is("-1", -1, tub.put(0, 0, -1));
        due.is("31", -1, tub.put(0, 0, 31));
        due.is("layer 2", -1, tub.put(2, 0, 1));
        due.is("layer -1", -1, tub.put(-1, 0, 1));
        due.is("kind 2", -1, tub.put(0, 2, 1));
        due.is("kind -1", -1, tub.put(0, -1, 1));
        due.is("refused", 7, tub.status(3));
        for (int no : FAR) {
            due.is("far off", -1, tub.put(no, 0, 1));
            due.is("far off", -1, tub.put(0, no, 1));
            due.is("far off", -1, tub.put(0, 0, no));
        }
        due.is("refused", 19, tub.status(3));
        due.is("stays", 64, tub.has(4));
        due.is("acts", 4, tub.has(10));
        BranTub full = Due.tub(TWO);
        Due.on(full, 0, 0, 0, 70, 98, 99, 0, 0, 50, 0, 0, 0, 0, 0, 50, 0, 0, 0, 0);
        due.is("70 and 29", 99, full.put(0, 0, 29));
        due.is("99 and 1", -1, full.put(0, 0, 1));
        due.is("98 and 2", -1, full.put(0, 1, 2));
        due.is("98 and 1", 99, full.put(0, 1, 1));
        due.is("99 and 30", -1, full.put(1, 0, 30));
        due.is("another kind of that layer", 30, full.put(1, 1, 30));
        due.is("refused", 3, full.status(3));
        due.is("more than 99 of all", 198, full.layer(0, -1));
    }

    private static void backs() {
        due.says("A CHILD gives a parcel of a KIND back: true");
        BranTub tub = Due.tub(TWO);
        Due.on(tub, 0, 0, 0, 98, 0, 0, 0, 0, 50, 0, 2, 0, 1, 0, 50, 0, 0, 0, 0);
        due.is("the 99th", true, tub.back(0, 0));
        due.is("uppermost", 99, tub.layer(0, 0));
        due.is("one is left", 1, tub.likes(0, 0, 1));
        due.is("into the uppermost layer though none was there", true, tub.back(0, 1));
        due.is("uppermost", 1, tub.layer(0, 1));
        due.is("the lower layer is as it was", 0, tub.layer(1, -1));
        due.is("purse", 50, tub.child(0, 3));
        due.says("false, refused (3), when he has none, there are none such, no LAYERS, or 99 of it lie uppermost.");
        due.is("99 lie uppermost", false, tub.back(0, 0));
        due.is("refused", 1, tub.status(3));
        due.is("stays", 1, tub.likes(0, 0, 1));
        due.is("has none", false, tub.back(0, 1));
        due.is("the other has none", false, tub.back(1, 0));
        due.is("refused", 3, tub.status(3));
        due.is("child 2", false, tub.back(2, 0));
        due.is("child -1", false, tub.back(-1, 0));
        due.is("kind 2", false, tub.back(0, 2));
        due.is("kind -1", false, tub.back(0, -1));
        due.is("refused", 7, tub.status(3));
        for (int no : FAR) {
            due.is("far off", false, tub.back(no, 0));
            due.is("far off", false, tub.back(0, no));
        }
        due.is("refused", 15, tub.status(3));
        due.is("acts", 2, tub.has(10));
        BranTub bare = Due.tub("kind a worth 5 size 2;" + P);
        Due.on(bare, 0, 0, 0, 0, 50, 0, 1);
        due.is("no layers", false, bare.back(0, 0));
        due.is("refused", 1, bare.status(3));
        due.is("stays", 1, bare.child(0, 4));
        BranTub second = Due.tub(TWO);
        Due.on(second, 0, 0, 0, 0, 0, 0, 0, 0, 50, 0, 2, 0, 2, 0, 50, 0, 2, 0, 2);
        due.is("the second child's second kind", true, second.back(1, 1));
        int[] want = {2, 2, 2, 1};
        for (int i = 0; i < 4; i++) due.is("child " + i / 2 + " kind " + i % 2, want[i], second.likes(i / 2, i % 2, 1));
        due.is("it lies uppermost", 1, second.layer(0, 1));
        due.is("nothing else does", 1, second.has(4));
    }

    private static void backUppermost() {
        due.says("a CHILD gives a parcel back (into the uppermost LAYER)");
        BranTub tub = Due.tub("kind a worth 5 size 2;kind b worth 9 size 7;layer a 1;layer b 1;layer a 1;" + P);
        for (int n = 0; n < 3; n++) tub.dip(0);
        due.is("all had", 0, tub.has(4));
        due.is("from the second layer", true, tub.back(0, 1));
        due.is("into the first", 1, tub.layer(0, 1));
        due.is("into no other", 0, tub.layer(1, -1) + tub.layer(2, -1));
        due.is("from the third layer", true, tub.back(0, 0));
        due.is("and again", true, tub.back(0, 0));
        due.is("into the first", 2, tub.layer(0, 0));
        due.is("all are back", 3, tub.layer(0, -1));
        tub.put(1, 0, 1);
        for (int n = 0; n < 3; n++) tub.dip(0);
        due.is("the second has one, the first none", true, tub.layer(0, -1) == 0 && tub.layer(1, -1) == 1);
        due.is("still into the first", true, tub.back(0, 1));
        due.is("which has it", 1, tub.layer(0, 1));
    }

    private static void swaps() {
        due.says("A SWAP: one CHILD gives a parcel of a KIND, another one of his own: true");
        BranTub tub = Due.tub(TWO);
        Due.on(tub, 0, 0, 0, 0, 0, 0, 0, 0, 50, 0, 2, 0, 0, 0, 50, 0, 1, 0, 1);
        due.is("a for b", true, tub.swap(0, 0, 1, 1));
        int[] want = {1, 1, 2, 0};
        for (int i = 0; i < 4; i++) due.is("child " + i / 2 + " kind " + i % 2, want[i], tub.likes(i / 2, i % 2, 1));
        due.is("a for a", true, tub.swap(0, 0, 1, 0));
        for (int i = 0; i < 4; i++) due.is("child " + i / 2 + " kind " + i % 2, want[i], tub.likes(i / 2, i % 2, 1));
        due.is("purses", 100, tub.has(7));
        due.is("acts", 2, tub.has(10));
        due.says("false, refused (3), when they have none such, are one, or there are none such.");
        due.is("are one", false, tub.swap(0, 0, 0, 0));
        due.is("are one", false, tub.swap(0, 0, 0, 1));
        due.is("his is none", false, tub.swap(0, 0, 1, 1));
        due.is("the first has none", false, tub.swap(1, 1, 0, 0));
        due.is("refused", 4, tub.status(3));
        due.is("child 2", false, tub.swap(2, 0, 1, 0));
        due.is("other 2", false, tub.swap(0, 0, 2, 0));
        due.is("kind 2", false, tub.swap(0, 2, 1, 0));
        due.is("his 2", false, tub.swap(0, 0, 1, 2));
        due.is("child -1", false, tub.swap(-1, 0, 1, 0));
        due.is("other -1", false, tub.swap(0, 0, -1, 0));
        due.is("kind -1", false, tub.swap(0, -1, 1, 0));
        due.is("his -1", false, tub.swap(0, 0, 1, -1));
        due.is("none and none", false, tub.swap(2, 0, 2, 0));
        due.is("refused", 13, tub.status(3));
        for (int no : FAR) {
            due.is("far off", false, tub.swap(no, 0, 1, 0));
            due.is("far off", false, tub.swap(0, no, 1, 0));
            due.is("far off", false, tub.swap(0, 0, no, 0));
            due.is("far off", false, tub.swap(0, 0, 1, no));
        }
        due.is("refused", 29, tub.status(3));
        for (int i = 0; i < 4; i++) due.is("stays", want[i], tub.likes(i / 2, i % 2, 1));
        due.is("acts", 2, tub.has(10));
        BranTub three = Due.tub(TWO + "child r reach 1 feels 0 first;");
        Due.on(three, 0, 0, 0, 0, 0, 0, 0, 0, 50, 0, 4, 0, 4, 0, 50, 0, 4, 0, 4, 0, 50, 0, 4, 0, 4);
        due.is("r's b for q's a", true, three.swap(2, 1, 1, 0));
        int[] then = {4, 4, 3, 5, 5, 3};
        for (int i = 0; i < 6; i++) due.is("child " + i / 2 + " kind " + i % 2, then[i], three.likes(i / 2, i % 2, 1));
    }

    private static void afternoonRounds() {
        due.says("An AFTERNOON of n rounds (1 .. 20): how many dips there were; NONE, refused (3), when n can't be.");
        String text = "kind a worth 5 size 2;layer a 30;" + P;
        due.is("1", 1, Due.tub(text).afternoon(1));
        due.is("20", 20, Due.tub(text).afternoon(20));
        BranTub tub = Due.tub(text);
        due.is("0", -1, tub.afternoon(0));
        due.is("-1", -1, tub.afternoon(-1));
        due.is("21", -1, tub.afternoon(21));
        for (int n : FAR) due.is("far off", -1, tub.afternoon(n));
        due.is("refused", 7, tub.status(3));
        due.is("no act", 0, tub.has(10));
        due.is("no hour", 0, tub.has(3));
        due.is("the dips of this one", 2, tub.afternoon(2));
        due.is("the dips of this one", 3, tub.afternoon(3));
        due.is("one act each", 2, tub.has(10));
        due.says("till a round in which nobody does, or n rounds");
        BranTub two = Due.tub("kind a worth 5 size 2;layer a 3;" + P + Q);
        due.is("two rounds of dips, one of none", 3, two.afternoon(20));
        due.is("three hours", 3, two.has(3));
        BranTub nobody = Due.tub("kind a worth 5 size 2;layer a 3;");
        due.is("no child", 0, nobody.afternoon(20));
        due.is("one hour", 1, nobody.has(3));
        due.is("one act", 1, nobody.has(10));
        BranTub poor = Due.tub(ONE + "purse 0;costs 1;");
        due.is("nobody can", 0, poor.afternoon(20));
        due.is("one hour", 1, poor.has(3));
        BranTub exact = Due.tub("kind a worth 5 size 2;layer a 3;" + P);
        due.is("three rounds of three", 3, exact.afternoon(3));
        due.is("no round of none", 3, exact.has(3));
        due.says("round by round each CHILD, by numbers, dips");
        BranTub turns = Due.tub("kind a worth 5 size 2;layer a 5;" + P + Q);
        due.is("five", 5, turns.afternoon(20));
        int[] child = {0, 1, 0, 1, 0};
        int[] hour = {0, 0, 1, 1, 2};
        for (int k = 0; k < 5; k++) {
            due.is("child of dip " + k, child[k], turns.kept(k, 0));
            due.is("hour of dip " + k, hour[k], turns.kept(k, 2));
        }
        due.is("the most dips", 160, Due.tub(Due.many(8, "kind k# worth 1 size 1;") + "layer " + Due.many(8, "k# 30 ") + ";"
                + Due.many(8, "child c# reach 1 feels 0 first;")).afternoon(20));
    }

    private static void afternoonComing() {
        due.says("if what it costs then is not above the floor of what a DIP is WORTH to him on the mean then");
        String worth = "kind a worth 6 size 2;kind b worth 7 size 2;layer a 1 b 1;" + P;
        due.is("6 of 6.5", 1, Due.tub(worth + "costs 6;").afternoon(1));
        due.is("7 of 6.5", 0, Due.tub(worth + "costs 7;").afternoon(1));
        due.is("0 of 0", 1, Due.tub("kind a worth 0 size 2;layer a 1;" + P).afternoon(1));
        due.is("1 of 0", 0, Due.tub("kind a worth 0 size 2;layer a 1;" + P + "costs 1;").afternoon(1));
        due.is("dip() does not ask it", 0, Due.tub("kind a worth 0 size 2;layer a 1;" + P + "costs 1;").dip(0));
        BranTub rising = Due.tub("kind a worth 6 size 2;layer a 9;" + P + Q + "costs 6+dips;");
        due.is("the second costs 7 then", 1, rising.afternoon(20));
        BranTub poorer = Due.tub("kind a worth 0 size 2;kind b worth 8 size 2;layer b 1;layer a 9;" + P + Q + "costs 1;");
        due.is("worth 8, then 0", 1, poorer.afternoon(20));
        due.says("if he can and comes");
        BranTub purses = Due.tub("kind a worth 6 size 2;layer a 9;" + P + Q + "costs 3;purse 5;");
        due.is("each once", 2, purses.afternoon(20));
        due.is("two left to each", 4, purses.has(7));
        due.is("not refused", 0, purses.status(2));
    }

    private static void afternoonHours() {
        due.says("behind each round an HOUR goes by (not beyond 99)");
        String text = "kind a worth 6 size 2;layer a 9;" + P;
        BranTub tub = Due.tub(text);
        Due.on(tub, 97, 0, 0, 9, 0, 50, 0, 0);
        due.is("one round", 1, tub.afternoon(1));
        due.is("98", 98, tub.has(3));
        due.is("three rounds", 3, tub.afternoon(3));
        due.is("99", 99, tub.has(3));
        due.is("it goes on in hour 99", 2, tub.afternoon(2));
        due.is("99", 99, tub.has(3));
        int[] hours = {97, 98, 99, 99, 99, 99};
        for (int k = 0; k < 6; k++) due.is("hour of dip " + k, hours[k], tub.kept(k, 2));
        due.is("not refused", 0, tub.status(3));
        BranTub costly = Due.tub(text + "costs hour;");
        due.is("hours 0 to 6", 7, costly.afternoon(20));
        due.is("and the round of none", 8, costly.has(3));
        due.is("0 + 1 + .. + 6", 29, costly.child(0, 3));
    }

    private static int[] all(BranTub tub) {
        int length = tub.image();
        int[] all = new int[length + 10 + 240];
        for (int k = 0; k < length; k++) all[k] = tub.octet(k);
        for (int what = 0; what < 10; what++) all[length + what] = tub.has(what);
        for (int k = 0; k < 60; k++) for (int what = 0; what < 4; what++) all[length + 10 + 4 * k + what] = tub.kept(k, what);
        return all;
    }

    private static void undoing() {
        due.says("The last 20 can be undone.");
        BranTub tub = new BranTub();
        for (int n = 0; n < 20; n++) tub.hour();
        due.is("twenty", 20, tub.has(10));
        for (int n = 19; n >= 0; n--) {
            due.is("undo", true, tub.undo());
            due.is("hour", n, tub.has(3));
        }
        due.is("none more", false, tub.undo());
        for (int n = 0; n < 21; n++) tub.hour();
        due.is("of twenty-one", 20, tub.has(10));
        for (int n = 0; n < 20; n++) due.is("undo", true, tub.undo());
        due.is("the first is not", false, tub.undo());
        due.is("hour", 1, tub.has(3));
        due.is("refused", 2, tub.status(4));
        due.says("false, refused (4), when none can be.");
        BranTub none = Due.tub(ONE);
        due.is("none yet", false, none.undo());
        due.is("refused", 1, none.status(4));
        none.dip(5);
        none.put(0, 0, 31);
        none.back(0, 0);
        none.swap(0, 0, 0, 0);
        none.afternoon(0);
        none.seed(4);
        none.seed(-4);
        none.row();
        none.image();
        none.on();
        none.fete();
        due.is("what was refused is no act, nor a seed, a row, an image", false, none.undo());
        due.is("refused", 2, none.status(4));
        due.is("nothing else", 0, none.status(0) + none.status(1));
        none.hour();
        due.is("one", true, none.undo());
        due.is("once alone", false, none.undo());
        due.is("refused", 3, none.status(4));
    }

    private static void undoingEach() {
        due.says("The latest ACT is undone: all that ACTS change is as it was ahead of it (but the seed): true");
        BranTub tub = Due.tub("kind a worth 5 size 2;kind b worth 9 size 7;layer a 9 b 9;layer b 1;" + P + Q + "costs 1;");
        Due.on(tub, 7, 1, 9, 9, 9, 0, 9, 0, 50, 0, 3, 0, 4, 0, 50, 1, 0, 0, 2);
        tub.dip(0);
        for (int act = 0; act < 6; act++) {
            int[] before = all(tub);
            boolean done = switch (act) {
                case 0 -> tub.dip(1) >= 0;
                case 1 -> tub.hour() >= 0;
                case 2 -> tub.put(1, 0, 5) >= 0;
                case 3 -> tub.back(1, 1);
                case 4 -> tub.swap(0, 1, 1, 0);
                default -> tub.afternoon(3) >= 0;
            };
            due.is("act " + act, true, done);
            due.is("can be undone", 2, tub.has(10));
            due.is("changes something", false, java.util.Arrays.equals(before, all(tub)));
            long seed = tub.has(11);
            due.is("undo of act " + act, true, tub.undo());
            due.is("as it was ahead of act " + act, true, java.util.Arrays.equals(before, all(tub)));
            due.is("but the seed", seed, tub.has(11));
            due.is("one less", 1, tub.has(10));
        }
        tub.seed(5);
        tub.dip(0);
        due.is("a draw", next(5), tub.has(11));
        tub.undo();
        due.is("the seed goes on", next(5), tub.has(11));
        tub.dip(0);
        due.is("another draw", next(next(5)), tub.has(11));
    }

    private static void seeds() {
        due.says("The seed: true; false, refused (5), when it is below 0.");
        BranTub tub = new BranTub();
        for (int seed : new int[] {0, 1, 2147483647}) {
            due.is("seed " + seed, true, tub.seed(seed));
            due.is("is", seed, tub.has(11));
        }
        due.is("-1", false, tub.seed(-1));
        due.is("the least", false, tub.seed(Integer.MIN_VALUE));
        due.is("refused", 2, tub.status(5));
        due.is("stays", 2147483647, tub.has(11));
    }

    private static void kept() {
        due.says("KEPT are dips: CHILD, KIND, HOUR, what it cost (the last 60 are told).");
        String text = "kind a worth 5 size 2;kind b worth 9 size 7;layer b 30;layer a 30;layer b 30;" + P + Q + "purse 999;costs dips;";
        BranTub tub = Due.tub(text);
        for (int n = 0; n < 62; n++) {
            due.is("told", Math.min(60, n), tub.has(9));
            tub.dip(n % 2);
            int told = Math.min(60, n + 1);
            int[] want = {n % 2, n < 30 || n >= 60 ? 1 : 0, n, n};
            for (int what = 0; what < 4; what++) due.is("the latest one's " + what, want[what], tub.kept(told - 1, what));
            due.is("the oldest one's cost", n + 1 - told, tub.kept(0, 3));
            due.is("behind the latest", -1, tub.kept(told, 0));
            tub.hour();
        }
        for (int n = 61; n >= 59; n--) {
            tub.undo();
            tub.undo();
            due.is("told", Math.min(60, n), tub.has(9));
            due.is("the oldest again", Math.max(0, n - 60), tub.kept(0, 3));
            due.is("the latest again", n - 1, tub.kept(Math.min(60, n) - 1, 3));
        }
        due.is("the greatest of all", true, Due.on(tub, 99, 39, 15, 0, 9, 0, 0, 0, 0, 3, 231, 0, 0, 0, 0, 3, 231, 0, 0, 0, 0));
        due.is("a dip", 1, tub.dip(1));
        int[] most = {1, 1, 99, 99};
        for (int what = 0; what < 4; what++) due.is("most " + what, most[what], tub.kept(0, what));
        BranTub eight = Due.tub(Due.many(8, "kind k# worth 1 size 1;") + "layer kh 1;" + Due.many(8, "child c# reach 1 feels 0 first;"));
        due.is("the eighth kind", 7, eight.dip(7));
        due.is("the eighth child", 7, eight.kept(0, 0));
        due.is("the eighth kind", 7, eight.kept(0, 1));
        due.is("in hour 0", 0, eight.kept(0, 2));
        due.is("for nothing", 0, eight.kept(0, 3));
        BranTub last = Due.tub(Due.many(8, "kind k# worth 1 size 1;") + "layer kh 8;" + Due.many(8, "child c# reach 1 feels 0 first;") + "costs 99;purse 999;");
        for (int hour = 0; hour < 99; hour++) last.hour();
        for (int child = 0; child < 8; child++) {
            last.dip(child);
            int[] all = {child, 7, 99, 99};
            for (int what = 0; what < 4; what++) due.is("the most of child " + child + ": " + what, all[what], last.kept(child, what));
        }
    }

    private static void keptInOrder() {
        due.says("Of the k-th dip that is told as KEPT, from the oldest on: 0 CHILD, 1 KIND, 2 HOUR, 3 what it cost.");
        BranTub tub = Due.tub(TWO + "costs 4+dips*3;");
        int[][] want = new int[2][];
        int first = tub.dip(1);
        want[0] = new int[] {1, first, 0, 4};
        tub.hour();
        tub.hour();
        int second = tub.dip(0);
        want[1] = new int[] {0, second, 2, 7};
        tub.hour();
        for (int k = 0; k < 2; k++) {
            for (int what = 0; what < 4; what++) due.is("dip " + k + ": " + what, want[k][what], tub.kept(k, what));
        }
        BranTub whole = Due.tub("kind a worth 9 size 2;layer a 30;" + P + Q);
        due.is("an afternoon's", 6, whole.afternoon(3));
        for (int k = 0; k < 6; k++) {
            due.is("by numbers", k % 2, whole.kept(k, 0));
            due.is("round by round", k / 2, whole.kept(k, 2));
        }
    }

    private static void keptOfOthers() {
        due.says("NONE when there is none such, or for others.");
        BranTub tub = Due.tub(ONE);
        due.is("none yet", -1, tub.kept(0, 0));
        tub.dip(0);
        due.is("the first", 0, tub.kept(0, 0));
        due.is("a second", -1, tub.kept(1, 0));
        due.is("-1", -1, tub.kept(-1, 0));
        due.is("what 4", -1, tub.kept(0, 4));
        due.is("what -1", -1, tub.kept(0, -1));
        for (int no : FAR) {
            due.is("far off", -1, tub.kept(no, 0));
            due.is("far off", -1, tub.kept(0, no));
        }
        tub.dip(9);
        due.is("a refused one is not kept", -1, tub.kept(1, 0));
        tub.undo();
        due.is("an undone one is not kept", -1, tub.kept(0, 0));
    }
}
