/** Promises 1 to 17, sentence by sentence, with what Terms III say of odds and prices. */
public final class TellSentencesTest {
    private static final Due due = new Due();
    private static final int[] FAR = {-2, 100, Integer.MAX_VALUE, Integer.MIN_VALUE};
    private static final int BLANKS = 0x20202020;
    private static final String TWO = "kind a worth 5 size 2;kind b worth 9 size 7;layer a 1 b 2;layer b 3;"
            + "child p reach 1 feels 0 first;child q reach 2 feels 1 best;likes q a 4;purse 20;";

    public static void main(String[] args) {
        newObject();
        feed();
        end();
        fete();
        fault();
        has();
        letter();
        kind();
        layer();
        child();
        likes();
        likely();
        takes();
        mean();
        comes();
        price();
        laid();
        due.close();
    }

    private static int feedBlanks(BranTub tub) {
        return tub.feed(BLANKS, BLANKS, BLANKS, BLANKS, BLANKS);
    }

    private static void newObject() {
        due.says("`NONE = -1`: None; refused.");
        due.is("NONE", -1, BranTub.NONE);
        due.says("No KINDS, no LAYERS, no CHILDREN; the seed is 1.");
        BranTub tub = new BranTub();
        due.is("kinds", 0, tub.has(0));
        due.is("layers", 0, tub.has(1));
        due.is("children", 0, tub.has(2));
        due.is("seed", 1, tub.has(11));
        due.is("kind 0", -1, tub.kind(0, 0));
        due.is("layer 0", -1, tub.layer(0, -1));
        due.is("child 0", -1, tub.child(0, 0));
        due.is("hour, parcels, dips, cost, coins, had, kept, acts", 0,
                tub.has(3) + tub.has(4) + tub.has(5) + tub.has(6) + tub.has(7) + tub.has(8) + tub.has(9) + tub.has(10));
    }

    private static void feed() {
        due.says("Twenty bytes come behind those on the tape, of each number the highest first: how many there are");
        BranTub tub = new BranTub();
        due.is("twenty", 20, feedBlanks(tub));
        due.is("behind those", 40, feedBlanks(tub));
        tub.end(33);
        due.is("behind those that are there", 53, feedBlanks(tub));
        BranTub first = new BranTub();
        first.feed(0x6b696e64, 0x20612077, 0x6f727468, 0x20392073, 0x697a6520);
        first.feed(0x373b2020, BLANKS, BLANKS, BLANKS, 0x2020200a);
        due.is("kind a worth 9 size 7;", 1, first.fete());
        due.is("worth", 9, first.kind(0, 0));
        due.is("size", 7, first.kind(0, 1));
        due.says("NONE, refused (0), if there would be more than 1600");
        BranTub full = new BranTub();
        for (int n = 0; n < 79; n++) feedBlanks(full);
        due.is("just 1600", 1600, feedBlanks(full));
        due.is("1620", -1, feedBlanks(full));
        due.is("refused", 1, full.status(0));
        due.is("all stay", true, full.end(1600));
        full.end(1581);
        due.is("1601", -1, feedBlanks(full));
        due.is("none came", false, full.end(1582));
        due.is("refused", 3, full.status(0));
        full.end(1580);
        due.is("1600 again", 1600, feedBlanks(full));
    }

    private static void end() {
        due.says("The tape has its first n bytes alone: true");
        BranTub tub = new BranTub();
        due.is("0 of none", true, tub.end(0));
        Due.text(tub, "purse 1;purse 2;purse 3;");
        due.is("all of them", true, tub.end(24));
        due.is("the first sixteen", true, tub.end(16));
        due.is("two statements", 2, tub.fete());
        Due.text(tub, "purse 1;");
        due.is("none of them", true, tub.end(0));
        due.is("nothing", 0, tub.fete());
        due.is("not refused", 0, tub.status(0));
        due.says("false, refused (0), if it has not so many, or n is below 0");
        due.is("1 of none", false, tub.end(1));
        Due.text(tub, "purse 1;");
        due.is("one more", false, tub.end(9));
        due.is("below 0", false, tub.end(-1));
        for (int n : FAR) due.is("far off", false, tub.end(n));
        due.is("refused", 7, tub.status(0));
        due.is("all stay", 1, tub.fete());
    }

    private static void fete() {
        due.says("The tape (it goes, refused or not) is THE FETE: how many STATEMENTS");
        BranTub tub = new BranTub();
        due.is("none", 0, tub.fete());
        due.is("three", 3, Due.fete(tub, "purse 1;purse 2;purse 3;"));
        due.is("it went", false, tub.end(1));
        due.is("a fault", -1, Due.fete(tub, "purse"));
        due.is("it went", false, tub.end(1));
        due.says("NONE, refused (1), with a FAULT (all stays)");
        tub = Due.tub(TWO + "costs 1;puts all;");
        tub.dip(1);
        tub.hour();
        tub.image();
        Due.row(tub, 0, 0);
        String[] wrong = {";", TWO + "kind a", TWO + "layer z", TWO + "purse 1000", "costs ((((((((", "costs 9;puts all;costs"};
        for (int n = 0; n < wrong.length; n++) {
            due.is(wrong[n], -1, Due.fete(tub, wrong[n]));
            due.is("refused", n + 1, tub.status(1));
            due.is("kinds", 2, tub.has(0));
            due.is("layers", 2, tub.has(1));
            due.is("children", 2, tub.has(2));
            due.is("hour", 1, tub.has(3));
            due.is("parcels", 5, tub.has(4));
            due.is("dips", 1, tub.has(5));
            due.is("costs", 1, tub.has(6));
            due.is("coins", 39, tub.has(7));
            due.is("had", 1, tub.has(8));
            due.is("kept", 1, tub.has(9));
            due.is("acts", 2, tub.has(10));
            due.is("likes", 4, tub.likes(1, 0, 0));
            due.is("name", 17, tub.letter(1, 1, 0));
            due.is("image", 20, imageLength(tub));
            due.is("leaves", true, tub.leaves(0, 0) >= 0);
        }
        due.is("undo", true, tub.undo());
        due.says("Without one all is as at first, nothing is KEPT, no ACT can be undone; the seed stays.");
        tub = Due.tub(TWO + "costs 1;puts all;");
        tub.dip(1);
        tub.hour();
        tub.seed(77);
        due.is("the same again", 9, Due.fete(tub, TWO + "purse 3;"));
        due.is("hour", 0, tub.has(3));
        due.is("parcels", 6, tub.has(4));
        due.is("dips", 0, tub.has(5));
        due.is("no costs", 0, tub.has(6));
        due.is("coins", 6, tub.has(7));
        due.is("had", 0, tub.has(8));
        due.is("kept", 0, tub.has(9));
        due.is("acts", 0, tub.has(10));
        due.is("no undo", false, tub.undo());
        due.is("seed", 77, tub.has(11));
        due.is("all have of each", true, Due.on(tub, 9, 0, 7, 9, 9, 9, 9, 0, 1, 0, 2, 0, 3, 0, 4, 0, 5, 0, 6));
        due.is("and once more", 9, Due.fete(tub, TWO + "purse 3;"));
        due.is("parcels", 6, tub.has(4));
        due.is("coins", 6, tub.has(7));
        for (int i = 0; i < 4; i++) due.is("none had", 0, tub.likes(i / 2, i % 2, 1));
        tub.dip(0);
        due.is("no puts: one draw", (1103515245L * 77 + 12345) % (1L << 31), tub.has(11));
        due.is("a text of nothing", 0, tub.fete());
        due.is("nothing is there", 0, tub.has(0) + tub.has(1) + tub.has(2) + tub.has(4) + tub.has(7) + tub.has(8));
        due.is("refused none", 0, tub.status(1));
    }

    private static int imageLength(BranTub tub) {
        int length = 0;
        while (tub.octet(length) != -1) length++;
        return length;
    }

    private static void fault() {
        due.says("its FAULT (what 0; 0 without, and ahead of any), its place (1; NONE without)");
        BranTub tub = new BranTub();
        due.is("ahead of any", 0, tub.fault(0));
        due.is("ahead of any", -1, tub.fault(1));
        Due.fete(tub, "purse 1000;");
        due.is("4", 4, tub.fault(0));
        due.is("at 6", 6, tub.fault(1));
        Due.fete(tub, "@");
        due.is("1", 1, tub.fault(0));
        due.is("at 0", 0, tub.fault(1));
        tub.dip(0);
        tub.on();
        due.is("stays with another refusal", 1, tub.fault(0));
        Due.fete(tub, "purse 1;");
        due.is("without", 0, tub.fault(0));
        due.is("without", -1, tub.fault(1));
        due.says("NONE for another what");
        Due.fete(tub, "purse 1000;");
        due.is("2", -1, tub.fault(2));
        due.is("-1", -1, tub.fault(-1));
        for (int what : FAR) due.is("far off", -1, tub.fault(what));
    }

    private static void has() {
        due.says("How many there are: 0 KINDS, 1 LAYERS, 2 CHILDREN, 3 HOUR, 4 parcels in the barrel, 5 dips, 6 what a DIP costs now");
        BranTub tub = Due.tub(TWO + "kind c worth 1 size 1;child r reach 1 feels 0 first;child s reach 1 feels 0 first;costs 2+dips*3;");
        tub.seed(9);
        tub.dip(0);
        tub.dip(1);
        tub.hour();
        int[] want = {3, 2, 4, 1, 4, 2, 8, 80 - 2 - 5, 2, 2, 3};
        for (int what = 0; what < want.length; what++) due.is("has " + what, want[what], tub.has(what));
        due.is("has 11", ((1103515245L * ((1103515245L * ((1103515245L * 9 + 12345) % (1L << 31)) + 12345) % (1L << 31)) + 12345) % (1L << 31)), tub.has(11));
        due.says("7 coins in purses, 8 parcels that CHILDREN have");
        BranTub coins = Due.tub(TWO + "costs 3;");
        int[] left = {40, 37, 34};
        for (int n = 0; n < 3; n++) {
            due.is("coins", left[n], coins.has(7));
            due.is("parcels had", n, coins.has(8));
            coins.dip(n % 2);
        }
        coins.back(0, coins.likes(0, 0, 1) > 0 ? 0 : 1);
        due.is("coins are not given back", 31, coins.has(7));
        due.is("a parcel is", 2, coins.has(8));
        due.says("11 the seed");
        due.is("at first", 1, new BranTub().has(11));
        for (int seed : new int[] {0, 7, Integer.MAX_VALUE}) {
            coins.seed(seed);
            due.is("as it was put", seed, coins.has(11));
        }
        due.says("9 dips that are told as KEPT, 10 ACTS that can be undone");
        BranTub many = Due.tub("kind a worth 5 size 2;layer a 30;layer a 30;layer a 30;child p reach 1 feels 0 first;");
        for (int n = 1; n <= 61; n++) {
            many.dip(0);
            due.is("kept", Math.min(60, n), many.has(9));
            due.is("acts", Math.min(20, n), many.has(10));
        }
        due.says("NONE for others.");
        due.is("12", -1, tub.has(12));
        due.is("-1", -1, tub.has(-1));
        for (int what : FAR) due.is("far off", -1, tub.has(what));
    }

    private static void letter() {
        due.says("Letter k (0 .. 5) of the NAME of a KIND (kind 0), a CHILD (1): 1 .. 26; 0 behind it");
        BranTub tub = Due.tub("kind a worth 1 size 1;kind azazaz worth 1 size 1;child z reach 1 feels 0 first;child zazaza reach 1 feels 0 first;");
        for (int k = 0; k < 6; k++) {
            due.is("a", k == 0 ? 1 : 0, tub.letter(0, 0, k));
            due.is("azazaz", k % 2 == 0 ? 1 : 26, tub.letter(0, 1, k));
            due.is("z", k == 0 ? 26 : 0, tub.letter(1, 0, k));
            due.is("zazaza", k % 2 == 0 ? 26 : 1, tub.letter(1, 1, k));
        }
        due.says("NONE when there is none such.");
        due.is("letter -1", -1, tub.letter(0, 0, -1));
        due.is("letter 6", -1, tub.letter(0, 1, 6));
        due.is("kind 2", -1, tub.letter(0, 2, 0));
        due.is("child 2", -1, tub.letter(1, 2, 0));
        due.is("kind -1", -1, tub.letter(0, -1, 0));
        due.is("child -1", -1, tub.letter(1, -1, 0));
        due.is("neither", -1, tub.letter(2, 0, 0));
        due.is("neither", -1, tub.letter(-1, 0, 0));
        for (int no : FAR) {
            due.is("far off", -1, tub.letter(no, 0, 0));
            due.is("far off", -1, tub.letter(0, no, 0));
            due.is("far off", -1, tub.letter(1, no, 0));
            due.is("far off", -1, tub.letter(0, 0, no));
        }
        // one kind more than children, and the other way round
        BranTub uneven = Due.tub("kind a worth 1 size 1;");
        due.is("no child", -1, uneven.letter(1, 0, 0));
        uneven = Due.tub("child c reach 1 feels 0 first;");
        due.is("no kind", -1, uneven.letter(0, 0, 0));
    }

    private static void kind() {
        due.says("Of a KIND: 0 worth, 1 size, 2 how many are in the barrel, 3 how many CHILDREN have of it.");
        BranTub tub = Due.tub(TWO);
        due.is("on", true, Due.on(tub, 0, 0, 0, 1, 2, 0, 3, 0, 0, 0, 2, 0, 4, 0, 0, 1, 0, 0, 8));
        int[][] want = {{5, 2, 1, 258}, {9, 7, 5, 12}};
        for (int kind = 0; kind < 2; kind++) {
            for (int what = 0; what < 4; what++) due.is("kind " + kind + " " + what, want[kind][what], tub.kind(kind, what));
        }
        due.says("NONE when there is none such, or for others.");
        due.is("kind 2", -1, tub.kind(2, 0));
        due.is("kind -1", -1, tub.kind(-1, 0));
        due.is("4", -1, tub.kind(0, 4));
        due.is("-1", -1, tub.kind(0, -1));
        for (int no : FAR) {
            due.is("far off", -1, tub.kind(no, 0));
            due.is("far off", -1, tub.kind(0, no));
        }
        BranTub eight = Due.tub(Due.many(8, "kind k# worth 1 size 1;"));
        due.is("the eighth", 1, eight.kind(7, 0));
        due.is("a ninth", -1, eight.kind(8, 0));
    }

    private static void layer() {
        due.says("How many parcels of a KIND a LAYER has (kind NONE: of all); NONE when there are none such.");
        BranTub tub = Due.tub(TWO);
        int[][] want = {{3, 1, 2}, {3, 0, 3}};
        for (int layer = 0; layer < 2; layer++) {
            for (int kind = -1; kind < 2; kind++) due.is("layer " + layer + " " + kind, want[layer][kind + 1], tub.layer(layer, kind));
        }
        due.is("layer 2", -1, tub.layer(2, 0));
        due.is("layer 2", -1, tub.layer(2, -1));
        due.is("layer -1", -1, tub.layer(-1, 0));
        due.is("layer -1", -1, tub.layer(-1, -1));
        due.is("kind 2", -1, tub.layer(0, 2));
        due.is("kind -2", -1, tub.layer(0, -2));
        for (int no : FAR) {
            due.is("far off", -1, tub.layer(no, 0));
            due.is("far off", -1, tub.layer(no, -1));
            due.is("far off", -1, tub.layer(0, no));
        }
        BranTub five = Due.tub("kind a worth 1 size 1;" + Due.many(5, "layer a 1;"));
        due.is("the fifth", 1, five.layer(4, 0));
        due.is("a sixth", -1, five.layer(5, 0));
    }

    private static void child() {
        due.says("Of a CHILD: 0 reach, 1 feels, 2 RULE (0 first, 1 best, 2 large, 3 small), 3 purse, 4 parcels he has, 5 what these are worth to him, 6 parcels WITHIN REACH.");
        BranTub tub = Due.tub(TWO + "child r reach 4 feels 2 large;child s reach 5 feels 3 small;");
        due.is("on", true, Due.on(tub, 0, 0, 0, 1, 2, 0, 3, 0, 7, 0, 2, 0, 4, 3, 231, 1, 0, 0, 8, 0, 0, 0, 0, 0, 0, 0, 1, 39, 15, 39, 15));
        int[][] want = {{1, 0, 0, 7, 6, 2 * 5 + 4 * 9, 3}, {2, 1, 1, 999, 264, 256 * 4 + 8 * 9, 6}, {4, 2, 2, 0, 0, 0, 6},
            {5, 3, 3, 1, 19998, 9999 * 14, 6}};
        for (int child = 0; child < 4; child++) {
            for (int what = 0; what < 7; what++) due.is("child " + child + " " + what, want[child][what], tub.child(child, what));
        }
        due.says("NONE when there is none such, or for others.");
        due.is("child 4", -1, tub.child(4, 0));
        due.is("child -1", -1, tub.child(-1, 0));
        due.is("7", -1, tub.child(0, 7));
        due.is("-1", -1, tub.child(0, -1));
        for (int no : FAR) {
            due.is("far off", -1, tub.child(no, 6));
            due.is("far off", -1, tub.child(0, no));
        }
        BranTub eight = Due.tub(Due.many(8, "child c# reach 1 feels 0 first;"));
        due.is("the eighth", 1, eight.child(7, 0));
        due.is("a ninth", -1, eight.child(8, 0));
        BranTub full = Due.tub(Due.many(8, "kind k# worth 99 size 1;") + Due.many(8, "child c# reach 1 feels 0 first;"));
        int[] image = new int[3 + 8 * 18];
        for (int i = 0; i < 64; i++) {
            image[3 + i / 8 * 18 + 2 + i % 8 * 2] = 39;
            image[3 + i / 8 * 18 + 3 + i % 8 * 2] = 15;
        }
        due.is("all have the most", true, Due.on(full, image));
        for (int child = 0; child < 8; child++) {
            due.is("parcels of child " + child, 79992, full.child(child, 4));
            due.is("worth of them", 79992 * 99, full.child(child, 5));
        }
        due.is("parcels of all", 639936, full.has(8));
        due.is("nothing within reach", 0, eight.child(7, 6));
        due.says("from the uppermost one on that is not empty (an empty one behind it counts as one, too)");
        BranTub reach = Due.tub("kind a worth 1 size 1;layer a 1;layer a 1;layer a 1;layer a 10;layer a 20;"
                + "child p reach 1 feels 0 first;child q reach 2 feels 0 first;child r reach 3 feels 0 first;child s reach 5 feels 0 first;");
        int[][] within = {{1, 2, 3, 33}, {1, 2, 12, 32}, {1, 11, 31, 31}, {10, 30, 30, 30}};
        for (int n = 0; n < 4; n++) {
            for (int child = 0; child < 4; child++) due.is(n + " empty, child " + child, within[n][child], reach.child(child, 6));
            reach.dip(0);
        }
        Due.on(reach, 0, 0, 0, 0, 7, 0, 0, 9, 0, 50, 0, 0, 0, 50, 0, 0, 0, 50, 0, 0, 0, 50, 0, 0);
        int[] behind = {7, 7, 7, 16};
        for (int child = 0; child < 4; child++) due.is("empty ones behind it, child " + child, behind[child], reach.child(child, 6));
        Due.on(reach, 0, 0, 0, 0, 0, 0, 0, 0, 0, 50, 0, 0, 0, 50, 0, 0, 0, 50, 0, 0, 0, 50, 0, 0);
        for (int child = 0; child < 4; child++) due.is("all empty, child " + child, 0, reach.child(child, 6));
    }

    private static void likes() {
        due.says("Of a CHILD and a KIND: 0 what it is worth to him, 1 how many he has, 2 how many are WITHIN REACH.");
        BranTub tub = Due.tub(TWO);
        due.is("on", true, Due.on(tub, 0, 0, 0, 1, 2, 0, 3, 0, 0, 0, 2, 0, 4, 0, 0, 39, 15, 1, 0));
        int[][] want = {{5, 2, 1}, {9, 4, 2}, {4, 9999, 1}, {9, 256, 5}};
        for (int i = 0; i < 4; i++) {
            for (int what = 0; what < 3; what++) due.is("child " + i / 2 + " kind " + i % 2 + " " + what, want[i][what], tub.likes(i / 2, i % 2, what));
        }
        due.says("NONE when there are none such, or for others.");
        due.is("child 2", -1, tub.likes(2, 0, 0));
        due.is("child -1", -1, tub.likes(-1, 0, 0));
        due.is("kind 2", -1, tub.likes(0, 2, 0));
        due.is("kind -1", -1, tub.likes(0, -1, 0));
        due.is("3", -1, tub.likes(0, 0, 3));
        due.is("-1", -1, tub.likes(0, 0, -1));
        for (int no : FAR) {
            due.is("far off", -1, tub.likes(no, 0, 2));
            due.is("far off", -1, tub.likes(0, no, 2));
            due.is("far off", -1, tub.likes(0, 0, no));
        }
    }

    /** Asks a call of a child (and a kind) for those that there are not. */
    private interface Asked {
        int of(BranTub tub, int child, int kind);
    }

    private static void noneSuch(boolean ofKind, Asked asked) {
        BranTub tub = Due.tub(TWO);
        due.is("child 2", -1, asked.of(tub, 2, 0));
        due.is("child -1", -1, asked.of(tub, -1, 0));
        for (int no : FAR) due.is("child far off", -1, asked.of(tub, no, 0));
        due.is("no object's", -1, asked.of(new BranTub(), 0, 0));
        BranTub bare = Due.tub("kind a worth 1 size 1;child p reach 1 feels 0 first;");
        due.is("no layers", -1, asked.of(bare, 0, 0));
        BranTub emptied = Due.tub("kind a worth 1 size 1;layer a 1;child p reach 5 feels 3 best;");
        due.is("one is", true, asked.of(emptied, 0, 0) >= 0);
        emptied.dip(0);
        due.is("nothing is within reach", -1, asked.of(emptied, 0, 0));
        emptied.back(0, 0);
        due.is("one is again", true, asked.of(emptied, 0, 0) >= 0);
        if (!ofKind) return;
        due.is("kind 2", -1, asked.of(tub, 0, 2));
        due.is("kind -1", -1, asked.of(tub, 0, -1));
        for (int no : FAR) due.is("kind far off", -1, asked.of(tub, 0, no));
    }

    private static void likely() {
        due.says("What is told in thousandths is the floor.");
        BranTub tub = Due.tub("kind a worth 5 size 2;kind b worth 9 size 7;layer a 1 b 2;layer a 28 b 30;layer b 30;child p reach 1 feels 3 small;child q reach 3 feels 0 first;");
        due.is("1/3", 333, tub.likely(0, 0));
        due.is("2/3", 666, tub.likely(0, 1));
        due.is("29/91", 318, tub.likely(1, 0));
        due.is("62/91", 681, tub.likely(1, 1));
        due.says("How LIKELY a KIND is that a CHILD touches it first, in thousandths");
        BranTub one = Due.tub("kind a worth 5 size 2;kind b worth 9 size 7;layer a 1;layer b 1;child p reach 1 feels 3 large;");
        due.is("all of them", 1000, one.likely(0, 0));
        due.is("none of them", 0, one.likely(0, 1));
        due.says("LIKELY is a KIND that a CHILD touches it first");
        BranTub felt = Due.tub("kind a worth 5 size 2;kind b worth 9 size 7;layer a 1 b 3;child p reach 1 feels 0 first;child q reach 1 feels 3 first;"
                + "child r reach 1 feels 3 best;child s reach 1 feels 3 small;");
        for (int child = 0; child < 4; child++) {
            due.is("a, by whatever rule", 250, felt.likely(child, 0));
            due.is("b, by whatever rule", 750, felt.likely(child, 1));
        }
        due.says("NONE when there are none such, or nothing is WITHIN REACH.");
        noneSuch(true, (t, child, kind) -> t.likely(child, kind));
    }

    private static void takes() {
        due.says("How likely a KIND is that he takes it by his RULE, in thousandths; NONE likewise.");
        String kinds = "kind a worth 5 size 2;kind b worth 9 size 7;layer a 1 b 1;";
        for (int feels = 0; feels <= 3; feels++) {
            BranTub tub = Due.tub(kinds + "child p reach 1 feels " + feels + " first;child q reach 1 feels " + feels
                    + " best;child r reach 1 feels " + feels + " large;child s reach 1 feels " + feels + " small;likes q a 10;");
            int[] other = {500, 250, 125, 62};
            int[] his = {500, 750, 875, 937};
            due.is("first a, feels " + feels, 500, tub.takes(0, 0));
            due.is("first b, feels " + feels, 500, tub.takes(0, 1));
            due.is("best a, feels " + feels, his[feels], tub.takes(1, 0));
            due.is("best b, feels " + feels, other[feels], tub.takes(1, 1));
            due.is("large a, feels " + feels, other[feels], tub.takes(2, 0));
            due.is("large b, feels " + feels, his[feels], tub.takes(2, 1));
            due.is("small a, feels " + feels, his[feels], tub.takes(3, 0));
            due.is("small b, feels " + feels, other[feels], tub.takes(3, 1));
        }
        due.says("of like ones the first touched");
        BranTub like = Due.tub("kind a worth 5 size 2;kind b worth 5 size 2;kind c worth 1 size 1;layer a 1 b 2 c 1;child p reach 1 feels 1 best;child q reach 1 feels 1 large;child r reach 1 feels 1 small;");
        int[][] want = {{312, 625, 62}, {312, 625, 62}, {187, 375, 437}};
        for (int child = 0; child < 3; child++) {
            for (int kind = 0; kind < 3; kind++) due.is("child " + child + " kind " + kind, want[child][kind], like.takes(child, kind));
        }
        due.says("NONE when there are none such, or nothing is WITHIN REACH.");
        noneSuch(true, (t, child, kind) -> t.takes(child, kind));
    }

    private static void mean() {
        due.says("WORTH of a DIP on the mean to a CHILD, in thousandths");
        BranTub tub = Due.tub("kind a worth 0 size 2;kind b worth 1 size 7;kind c worth 99 size 1;layer a 1 b 2;layer c 30;"
                + "child p reach 1 feels 0 first;child q reach 1 feels 1 best;child r reach 1 feels 1 small;child s reach 1 feels 3 large;"
                + "child t reach 2 feels 3 best;child u reach 1 feels 0 best;likes u a 99;likes u b 99;");
        due.is("2/3", 666, tub.mean(0));
        due.is("8/9", 888, tub.mean(1));
        due.is("4/9", 444, tub.mean(2));
        due.is("80/81", 987, tub.mean(3));
        due.is("of 33^4", (99L * (33L * 33 * 33 * 33 - 81) + 80) * 1000 / (33L * 33 * 33 * 33), tub.mean(4));
        due.is("the most", 99000, tub.mean(5));
        due.says("what the parcel taken by his RULE from those touched is worth to him");
        BranTub his = Due.tub("kind a worth 10 size 2;kind b worth 20 size 7;layer a 1 b 1;child p reach 1 feels 1 first;child q reach 1 feels 1 best;"
                + "child r reach 1 feels 1 large;child s reach 1 feels 1 small;child t reach 1 feels 1 large;likes t a 99;likes t b 0;");
        int[] worth = {15000, 17500, 17500, 12500, 24750};
        for (int child = 0; child < 5; child++) due.is("child " + child, worth[child], his.mean(child));
        due.says("each of them being any one within reach, exactly");
        BranTub full = Due.tub("kind a worth 0 size 1;kind b worth 98 size 2;kind c worth 99 size 3;" + Due.many(5, "layer a 30 b 30 c 30;")
                + "child p reach 5 feels 3 best;child q reach 5 feels 3 small;");
        for (int layer = 0; layer < 5; layer++) {
            for (int kind = 0; kind < 3; kind++) full.put(layer, kind, kind == 2 ? 29 : 30);
        }
        // 300 a, 300 b, 295 c, touched four times
        long all = 895L * 895 * 895 * 895;
        long aAlone = 300L * 300 * 300 * 300;
        long noC = 600L * 600 * 600 * 600;
        due.is("best", (99 * (all - noC) + 98 * (noC - aAlone)) * 1000 / all, full.mean(0));
        long noA = 595L * 595 * 595 * 595;
        long cAlone = 295L * 295 * 295 * 295;
        due.is("small", (98 * (noA - cAlone) + 99 * cAlone) * 1000 / all, full.mean(1));
        due.is("takes c", (all - noC) * 1000 / all, full.takes(0, 2));
        due.is("takes b", (noC - aAlone) * 1000 / all, full.takes(0, 1));
        due.is("takes a", aAlone * 1000 / all, full.takes(0, 0));
        due.says("(nobody puts back)");
        due.is("puts is not asked", 666, Due.tub("kind a worth 0 size 2;kind b worth 1 size 7;layer a 1 b 2;child p reach 1 feels 0 first;puts worth=0;").mean(0));
        due.says("NONE when there is none such, or nothing is WITHIN REACH.");
        noneSuch(false, (t, child, kind) -> t.mean(child));
    }

    private static void comes() {
        due.says("if it is not above the floor of that WORTH, nor above his purse");
        BranTub tub = Due.tub("kind a worth 6 size 2;kind b worth 7 size 7;layer a 1 b 1;child p reach 1 feels 0 first;child q reach 1 feels 0 first;likes q a 30;likes q b 31;purse 9;");
        due.is("worth 6.5 at 6", 1, tub.comes(0, 6));
        due.is("worth 6.5 at 7", 0, tub.comes(0, 7));
        due.is("has 9 at 9", 1, tub.comes(1, 9));
        due.is("has 9 at 10", 0, tub.comes(1, 10));
        due.says("Whether a CHILD COMES at a price (0 .. 99): 1, 0 (0, too, if nothing is WITHIN REACH)");
        BranTub most = Due.tub("kind a worth 99 size 2;layer a 1;child p reach 1 feels 0 first;purse 99;");
        due.is("at 0", 1, most.comes(0, 0));
        due.is("at 98", 1, most.comes(0, 98));
        due.is("at 99", 1, most.comes(0, 99));
        most.dip(0);
        due.is("nothing within reach", 0, most.comes(0, 0));
        due.is("nothing within reach", 0, most.comes(0, 99));
        BranTub least = Due.tub("kind a worth 0 size 2;layer a 1;child p reach 1 feels 0 first;purse 0;");
        due.is("worth 0, has 0, at 0", 1, least.comes(0, 0));
        due.is("worth 0, has 0, at 1", 0, least.comes(0, 1));
        due.says("NONE when there is none such, or that can't be.");
        due.is("at 100", -1, most.comes(0, 100));
        due.is("at -1", -1, most.comes(0, -1));
        due.is("child 1", -1, most.comes(1, 0));
        due.is("child -1", -1, most.comes(-1, 0));
        for (int no : FAR) {
            due.is("far off", -1, most.comes(no, 0));
            due.is("far off", -1, most.comes(0, no));
        }
    }

    private static void prices(String what, BranTub tub, int price, int takings) {
        due.is(what + ": price", price, tub.price(0));
        due.is(what + ": takings", takings, tub.price(1));
    }

    private static String liked(int... worths) {
        StringBuilder text = new StringBuilder("kind a worth 0 size 1;layer a 1;purse 999;");
        text.append(Due.many(worths.length, "child c# reach 1 feels 0 first;"));
        for (int i = 0; i < worths.length; i++) text.append("likes c").append((char) ('a' + i)).append(" a ").append(worths[i]).append(';');
        return text.toString();
    }

    private static void price() {
        due.says("BEST PRICE (0 .. 99): that with the greatest TAKINGS");
        prices("the most", Due.tub(liked(99)), 99, 99);
        prices("the least that is anything", Due.tub(liked(1)), 1, 1);
        prices("of eight", Due.tub(liked(99, 99, 99, 99, 99, 99, 99, 99)), 99, 792);
        prices("for the other alone", Due.tub(liked(40, 90)), 90, 90);
        prices("for both", Due.tub(liked(46, 90)), 46, 92);
        due.says("TAKINGS of a price: the price times how many COME");
        BranTub six = Due.tub(liked(10, 20, 30, 40, 50, 60) + "purse 45;");
        for (int at = 0; at <= 99; at++) {
            int come = 0;
            for (int child = 0; child < 6; child++) come += six.comes(child, at);
            int want = at <= 10 ? 6 : at <= 20 ? 5 : at <= 30 ? 4 : at <= 40 ? 3 : at <= 45 ? 2 : 0;
            due.is("come at " + at, want, come);
        }
        prices("3 at 40, 4 at 30", six, 30, 120);
        due.says("of like ones the least");
        prices("40 twice, 80 once", Due.tub(liked(40, 80)), 40, 80);
        prices("20 thrice, 30 twice, 60 once", Due.tub(liked(60, 30, 20)), 20, 60);
        prices("nobody pays", Due.tub(liked(0, 0)), 0, 0);
        prices("nobody is there", new BranTub(), 0, 0);
        BranTub emptied = Due.tub(liked(9));
        emptied.dip(0);
        prices("nothing is there", emptied, 0, 0);
        due.says("nor above his purse");
        prices("purses of 7", Due.tub(liked(40, 80) + "purse 7;"), 7, 14);
        prices("purses of 0", Due.tub(liked(40, 80) + "purse 0;"), 0, 0);
        due.says("BEST PRICE: it (what 0), TAKINGS (1). NONE for others.");
        due.is("2", -1, Due.tub(liked(9)).price(2));
        due.is("-1", -1, Due.tub(liked(9)).price(-1));
        for (int what : FAR) due.is("far off", -1, Due.tub(liked(9)).price(what));
    }

    private static void order(String what, BranTub tub, int child, int worth, int... order) {
        due.is(what + ": worth", worth, tub.laid(child, -1));
        for (int k = 0; k < order.length; k++) due.is(what + ": " + k, order[k], tub.laid(child, k));
    }

    private static void laid() {
        due.says("the order of LAYERS by which what a DIP of a CHILD is WORTH on the mean, in thousandths, is most");
        String kinds = "kind a worth 9 size 2;kind b worth 4 size 7;kind c worth 1 size 5;";
        BranTub tub = Due.tub(kinds + "layer c 1;layer b 1;layer a 1;child p reach 1 feels 0 first;child q reach 2 feels 0 first;child r reach 2 feels 0 first;likes r c 30;");
        order("one layer", tub, 0, 9000, 2, 0, 1);
        order("two layers", tub, 1, 6500, 1, 2, 0);
        order("by what he likes", tub, 2, 19500, 0, 2, 1);
        order("a single one", Due.tub(kinds + "layer a 1;child p reach 1 feels 0 first;"), 0, 9000, 0);
        order("the last order of all", Due.tub("kind a worth 5 size 1;kind b worth 4 size 1;kind c worth 3 size 1;kind d worth 2 size 1;kind e worth 1 size 1;"
                + "layer e 30;layer d 20;layer c 10;layer b 5;layer a 1;child p reach 1 feels 0 first;"), 0, 5000, 4, 0, 1, 2, 3);
        due.says("of like ones the first by LAYERS (which one is uppermost, then the next one)");
        order("all alike", Due.tub("kind a worth 9 size 2;" + Due.many(5, "layer a 3;") + "child p reach 3 feels 2 best;"), 0, 9000, 0, 1, 2, 3, 4);
        order("alike but in what thousandths tell no more", Due.tub("kind a worth 1 size 2;kind b worth 0 size 2;layer a 10 b 20;layer a 1;layer a 1;"
                + "child p reach 5 feels 0 first;"), 0, 375, 0, 1, 2);
        BranTub close = Due.tub("kind a worth 1 size 2;kind b worth 0 size 2;layer b 1;layer a 1;child p reach 1 feels 0 first;");
        Due.on(close, 0, 0, 0, 33, 67, 34, 66, 0, 50, 0, 0, 0, 0);
        order("34 of 100 is above 33", close, 0, 340, 1, 0);
        Due.on(close, 0, 0, 0, 33, 66, 32, 64, 0, 50, 0, 0, 0, 0);
        order("a third twice", close, 0, 333, 0, 1);
        Due.on(close, 0, 0, 0, 0, 0, 0, 5, 0, 50, 0, 0, 0, 0);
        order("worth nothing, an empty one uppermost", close, 0, 0, 0, 1);
        Due.on(close, 0, 0, 0, 0, 0, 5, 0, 0, 50, 0, 0, 0, 0);
        order("an empty one uppermost", close, 0, 1000, 0, 1);
        due.says("LAID LAYERS for a CHILD: WORTH, in thousandths (k NONE), the number of the LAYER that lies k-th from above.");
        due.is("k 0", 2, tub.laid(0, 0));
        due.is("k 2", 1, tub.laid(0, 2));
        due.says("NONE when there are none such, or nothing is in the barrel.");
        due.is("k 3", -1, tub.laid(0, 3));
        due.is("k -2", -1, tub.laid(0, -2));
        for (int k : FAR) due.is("far off", -1, tub.laid(0, k));
        noneSuch(false, (t, child, kind) -> t.laid(child, -1));
        noneSuch(false, (t, child, kind) -> t.laid(child, 0));
    }
}
