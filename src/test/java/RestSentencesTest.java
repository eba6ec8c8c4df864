/** Promises 27 to 33, sentence by sentence, with what Terms III say of rows, rings and images. */
public final class RestSentencesTest {
    private static final Due due = new Due();
    private static final int[] FAR = {-2, 100, Integer.MAX_VALUE, Integer.MIN_VALUE};
    private static final String KINDS = "kind a worth 5 size 2;kind b worth 9 size 7;";
    private static final String PQ = "child p reach 1 feels 0 first;child q reach 2 feels 0 first;";
    private static final String TWO = KINDS + "layer a 2 b 1;layer b 3;" + PQ;

    public static void main(String[] args) {
        rowsTold();
        rowsThatCanBe();
        rowsRefused();
        leaves();
        ringsAmongWhom();
        ringsOffered();
        ringsPointed();
        ringsLeft();
        ringsRefused();
        images();
        octets();
        imagesOn();
        imagesAtMost();
        imagesRefused();
        statusOfEach();
        statusOfOthers();
        due.close();
    }

    private static void rowsTold() {
        due.says("1 to 20 rows of two bytes: how many can be");
        BranTub tub = Due.tub("kind a worth 5 size 2;layer a 30;" + PQ);
        due.is("one", 1, Due.row(tub, 0, 0));
        due.is("nineteen", 19, Due.row(tub, new int[38]));
        due.is("twenty", 20, Due.row(tub, new int[40]));
        due.is("none refused", 0, tub.status(5));
        due.says("The tape (it goes, refused or not) is a ROW of dips");
        due.is("it went", false, tub.end(1));
        due.is("refused", -1, Due.row(tub, 0));
        due.is("it went", false, tub.end(1));
        due.says("from now on");
        tub.dip(0);
        Due.row(tub, 0, 0);
        due.is("one had, one told", 28, tub.leaves(0, 0));
        due.is("all is as it was", 29, tub.layer(0, 0));
        due.is("nothing is had of it", 1, tub.has(8));
        due.is("nothing is kept of it", 1, tub.has(9));
        due.is("no act", 1, tub.has(10));
        due.is("no draw", 1103527590, tub.has(11));
    }

    private static void rowsThatCanBe() {
        due.says("each must be within that one's reach then");
        BranTub tub = Due.tub(TWO + "purse 0;costs 99;");
        due.is("all of the upper layer", 3, Due.row(tub, 0, 0, 0, 1, 0, 0));
        due.is("the third a is none", 2, Due.row(tub, 0, 0, 0, 0, 0, 0));
        due.is("the lower layer is out of p's reach", 1, Due.row(tub, 0, 1, 0, 1));
        due.is("it is within q's", 2, Due.row(tub, 0, 1, 1, 1));
        due.is("p reaches it when the upper one is empty", 6, Due.row(tub, 1, 0, 1, 0, 1, 1, 0, 1, 0, 1, 0, 1));
        due.is("all had, none is left", 6, Due.row(tub, 1, 0, 1, 0, 1, 1, 0, 1, 0, 1, 0, 1, 0, 1));
        due.is("what can't be ends it", 1, Due.row(tub, 0, 1, 0, 1, 0, 0));
        due.is("the first can't be", 0, Due.row(Due.tub(KINDS + "layer a 1;" + PQ), 0, 1));
        due.is("no layers", 0, Due.row(Due.tub(KINDS + PQ), 0, 0));
        due.says("A ROW of dips: CHILD, KIND, one behind the other");
        due.is("child first, then kind", 1, Due.row(tub, 1, 0));
        due.is("a", 1, tub.leaves(0, 0));
        due.is("b of the upper layer", 1, tub.leaves(0, 1));
        due.is("kind 1 by child 0", 1, Due.row(tub, 0, 1));
        due.is("a", 2, tub.leaves(0, 0));
        due.is("b of the upper layer", 0, tub.leaves(0, 1));
        due.is("what is first makes room for what is next", 4, Due.row(tub, 0, 0, 0, 0, 0, 1, 0, 1));
        due.is("the other way round it does not", 1, Due.row(tub, 0, 1, 0, 1, 0, 0, 0, 0));
        due.says("how many can be.");
        for (int first = 0; first < 8; first++) {
            // the row's dip number first is the one that can't be: no a is left, and b lies too low
            BranTub some = Due.tub("kind a worth 5 size 2;kind b worth 9 size 7;layer a 20;layer b 30;" + PQ);
            int[] row = new int[20];
            row[2 * first + 1] = 1;
            due.is("up to dip " + first, first, Due.row(some, row));
            due.is("left then", 20 - first, some.leaves(0, 0));
        }
        due.says("of a KIND in more LAYERS it is taken from the uppermost one within reach");
        BranTub more = Due.tub("kind a worth 5 size 2;kind b worth 9 size 7;layer b 1;layer a 1;layer a 1;child p reach 2 feels 0 first;child q reach 3 feels 0 first;");
        due.is("two", 2, Due.row(more, 1, 0, 1, 0));
        due.is("the second layer", 0, more.leaves(1, 0));
        due.is("the third layer", 0, more.leaves(2, 0));
        due.is("one", 1, Due.row(more, 1, 0));
        due.is("the second layer first", 0, more.leaves(1, 0));
        due.is("the third layer not yet", 1, more.leaves(2, 0));
        due.is("p reaches two layers", 1, Due.row(more, 0, 0, 0, 0));
        due.is("and the third behind the first", 3, Due.row(more, 0, 0, 0, 1, 0, 0));
    }

    private static void rowsRefused() {
        due.says("NONE, refused (5), when it is none such.");
        int[][] none = {{}, {0}, {0, 0, 0}, new int[41], new int[42], new int[60], {2, 0}, {0, 2}, {255, 0}, {0, 255}, {0, 0, 2, 0}, {0, 0, 0, 2},
            {0, 1, 0, 1, 0, 9}};
        BranTub tub = Due.tub(TWO);
        for (int n = 0; n < none.length; n++) {
            due.is("row " + n + " of " + none[n].length, -1, Due.row(tub, none[n]));
            due.is("refused", n + 1, tub.status(5));
            due.is("it went", false, tub.end(1));
        }
        due.is("leaves", -1, tub.leaves(0, 0));
        BranTub empty = new BranTub();
        due.is("no child, no kind", -1, Due.row(empty, 0, 0));
        due.is("refused", 1, empty.status(5));
    }

    private static void leaves() {
        due.says("NONE ahead of any, or when there are none such.");
        BranTub tub = Due.tub(TWO);
        due.is("ahead of any", -1, tub.leaves(0, 0));
        Due.row(tub, 0);
        due.is("ahead of any that was not refused", -1, tub.leaves(0, 0));
        Due.row(tub, 0, 0);
        int[] want = {1, 1, 0, 3};
        for (int i = 0; i < 4; i++) due.is("layer " + i / 2 + " kind " + i % 2, want[i], tub.leaves(i / 2, i % 2));
        due.is("layer 2", -1, tub.leaves(2, 0));
        due.is("layer -1", -1, tub.leaves(-1, 0));
        due.is("kind 2", -1, tub.leaves(0, 2));
        due.is("kind -1", -1, tub.leaves(0, -1));
        for (int no : FAR) {
            due.is("far off", -1, tub.leaves(no, 0));
            due.is("far off", -1, tub.leaves(0, no));
        }
        due.says("how many of a KIND a LAYER had left then");
        BranTub left = Due.tub(TWO);
        Due.row(left, 1, 1, 0, 0, 1, 1);
        int[] lefts = {1, 0, 0, 2};
        for (int i = 0; i < 4; i++) due.is("layer " + i / 2 + " kind " + i % 2, lefts[i], left.leaves(i / 2, i % 2));
        due.says("Of the latest row() of this FETE that was not refused");
        Due.row(tub, 0, 5);
        due.is("a refused one", 1, tub.leaves(0, 0));
        Due.row(tub, 0, 0, 0, 0, 0, 0);
        due.is("up to what can't be", 0, tub.leaves(0, 0));
        Due.row(tub, 1, 1, 1, 1, 0, 0);
        int[] then = {1, 0, 0, 2};
        for (int i = 0; i < 4; i++) due.is("the latest", then[i], tub.leaves(i / 2, i % 2));
        tub.put(0, 0, 9);
        tub.dip(0);
        tub.undo();
        Due.fete(tub, "@");
        Due.on(tub, 0, 0, 0, 9, 9, 9, 9, 0, 50, 0, 0, 0, 0, 0, 50, 0, 0, 0, 0);
        for (int i = 0; i < 4; i++) due.is("had then", then[i], tub.leaves(i / 2, i % 2));
        Due.fete(tub, TWO);
        due.is("of another fete", -1, tub.leaves(0, 0));
        Due.row(tub, 0, 1, 0, 1);
        due.is("of none that can be but the first", 0, tub.leaves(0, 1));
    }

    /** A fete of the kinds a, b, c (worth 5, 6, 7), no layers, and a child for each row: how many he has of each. */
    private static BranTub having(String likes, int[]... had) {
        BranTub tub = Due.tub("kind a worth 5 size 2;kind b worth 6 size 2;kind c worth 7 size 2;" + Due.many(had.length, "child p# reach 1 feels 0 first;") + likes);
        int[] image = new int[3 + 8 * had.length];
        for (int i = 0; i < had.length; i++) for (int kind = 0; kind < 3; kind++) image[3 + 8 * i + 2 + 2 * kind + 1] = had[i][kind];
        due.is("an image", true, Due.on(tub, image));
        return tub;
    }

    private static int[] a(int a, int b, int c) {
        return new int[] {a, b, c};
    }

    private static void asked(BranTub tub, int what, int... want) {
        for (int child = 0; child < want.length; child++) due.is("child " + child, want[child], tub.ring(child, what));
    }

    private static void ringsAmongWhom() {
        due.says("RINGS of swaps among CHILDREN who have parcels");
        BranTub tub = having("likes pa b 99;", a(1, 0, 0), a(0, 0, 0), a(0, 1, 0));
        asked(tub, 0, 0, -1, 2);
        asked(having("likes pa b 99;likes pc a 99;", a(1, 0, 0), a(0, 0, 0), a(0, 1, 0)), 0, 2, -1, 0);
        asked(having("", a(0, 0, 0), a(0, 0, 0)), 0, -1, -1);
        asked(having("", a(0, 0, 0), a(0, 0, 9)), 0, -1, 1);
        asked(having("", a(0, 0, 9)), 2, 1);
    }

    private static void ringsOffered() {
        due.says("each offers the one he has that is worth least to him (of like ones the least KIND)");
        asked(having("likes pd c 1;likes pe a 6;likes pf b 7;", a(1, 1, 1), a(0, 1, 1), a(0, 0, 1), a(1, 1, 1), a(1, 1, 1), a(0, 1, 1)), 1, 0, 1, 2, 2, 0, 1);
        asked(having("likes pa a 7;likes pa b 7;likes pb a 0;likes pb b 0;likes pb c 0;", a(9, 9, 9), a(0, 9, 9)), 1, 0, 1);
        due.is("a kind of worth 0", 1, having("likes pa b 0;", a(1, 1, 1)).ring(0, 1));
    }

    private static void ringsPointed() {
        due.says("Round by round those who are left each point at the one of these whose offer is worth most to him");
        asked(having("likes pa b 8;likes pa c 9;likes pb a 9;likes pc a 9;", a(1, 0, 0), a(0, 1, 0), a(0, 0, 1)), 0, 2, 1, 0);
        asked(having("likes pa b 9;likes pa c 8;likes pb a 9;likes pc a 9;", a(1, 0, 0), a(0, 1, 0), a(0, 0, 1)), 0, 1, 0, 2);
        // the one he wanted most has left: in the next round he points at the next best who is left
        BranTub later = having("likes pa b 9;likes pb a 9;likes pc b 9;likes pc a 8;likes pc c 1;likes pd c 9;likes pd a 8;", a(1, 0, 0), a(0, 1, 0), a(0, 0, 1), a(1, 0, 0));
        asked(later, 0, 1, 0, 3, 2);
        asked(later, 2, 1, 1, 2, 2);
        due.says("(himself, if his own is among these; of like others the first)");
        asked(having("", a(0, 1, 0), a(0, 1, 0), a(0, 1, 0)), 0, 0, 1, 2);
        // c is worth most to the first: the second and the third both offer it
        asked(having("likes pb b 9;likes pc b 9;", a(0, 1, 0), a(0, 0, 1), a(0, 0, 1)), 0, 1, 0, 2);
        asked(having("likes pb c 1;likes pc c 1;", a(0, 1, 0), a(0, 0, 1), a(0, 0, 1)), 0, 1, 0, 2);
        // kinds that are worth alike to him count as like ones
        asked(having("likes pa a 7;likes pa b 7;likes pb a 9;likes pc a 9;", a(1, 0, 0), a(0, 1, 0), a(0, 0, 1)), 0, 0, 1, 2);
        asked(having("likes pa a 6;likes pa b 7;likes pb a 9;likes pc a 9;", a(1, 0, 0), a(0, 1, 0), a(0, 0, 1)), 0, 1, 0, 2);
        asked(having("likes pb b 9;likes pb c 9;likes pb a 9;", a(1, 0, 0), a(0, 1, 0)), 0, 0, 1);
    }

    private static void ringsLeft() {
        due.says("who goes round in a ring takes what he points at, and leaves; till nobody is left");
        // a ring of two, and two who wanted of it: the third then keeps his own, the fourth takes nothing better
        String likes = "likes pa b 9;likes pb a 9;likes pc a 9;likes pd c 9;likes pd b 8;";
        BranTub tub = having(likes, a(1, 0, 0), a(0, 1, 0), a(0, 0, 1), a(1, 0, 0));
        asked(tub, 0, 1, 0, 3, 2);
        asked(tub, 1, 0, 1, 2, 0);
        asked(tub, 2, 1, 1, 2, 2);
        // a ring of three and one who leads into it
        String three = "likes pa b 9;likes pb c 9;likes pc a 9;likes pd b 9;";
        BranTub round = having(three, a(1, 0, 0), a(0, 1, 0), a(0, 0, 1), a(1, 0, 0));
        asked(round, 0, 1, 2, 0, 3);
        asked(round, 2, 1, 1, 1, 2);
        due.says("in which round he leaves (2; 1 and on)");
        BranTub eight = Due.tub(Due.many(8, "kind k# worth 1 size 1;") + Due.many(8, "child p# reach 1 feels 0 first;")
                + "likes pa ka 9;" + "likes pb ka 9;likes pb kb 8;" + "likes pc kb 9;likes pc kc 8;" + "likes pd kc 9;likes pd kd 8;"
                + "likes pe kd 9;likes pe ke 8;" + "likes pf ke 9;likes pf kf 8;" + "likes pg kf 9;likes pg kg 8;" + "likes ph kg 9;likes ph kh 8;");
        int[] image = new int[3 + 8 * 18];
        for (int child = 0; child < 8; child++) image[3 + 18 * child + 2 + 2 * child + 1] = 1;
        due.is("an image", true, Due.on(eight, image));
        asked(eight, 2, 1, 2, 3, 4, 5, 6, 7, 8);
        asked(eight, 0, 0, 1, 2, 3, 4, 5, 6, 7);
        StringBuilder circle = new StringBuilder(Due.many(8, "kind k# worth 1 size 1;") + Due.many(8, "child p# reach 1 feels 0 first;"));
        for (int child = 0; child < 8; child++) circle.append("likes p").append((char) ('a' + child)).append(" k").append((char) ('a' + (child + 1) % 8)).append(" 9;");
        BranTub all = Due.tub(circle.toString());
        due.is("an image", true, Due.on(all, image));
        asked(all, 0, 1, 2, 3, 4, 5, 6, 7, 0);
        asked(all, 2, 1, 1, 1, 1, 1, 1, 1, 1);
        due.says("the CHILD whose offer a CHILD takes (what 0; himself, if he keeps his own), his own offer's KIND (1)");
        asked(all, 1, 0, 1, 2, 3, 4, 5, 6, 7);
        due.is("nothing is changed", 8, all.has(8));
        due.is("the first has his own still", 1, all.likes(0, 0, 1));
        due.is("no act", 0, all.has(10));
    }

    private static void ringsRefused() {
        due.says("NONE when he has no parcel, there is none such, or for others.");
        BranTub tub = having("", a(1, 0, 0), a(0, 0, 0));
        for (int what = 0; what < 3; what++) {
            due.is("has one", true, tub.ring(0, what) >= 0);
            due.is("has none", -1, tub.ring(1, what));
            due.is("child 2", -1, tub.ring(2, what));
            due.is("child -1", -1, tub.ring(-1, what));
            for (int no : FAR) due.is("far off", -1, tub.ring(no, what));
        }
        due.is("3", -1, tub.ring(0, 3));
        due.is("-1", -1, tub.ring(0, -1));
        for (int no : FAR) due.is("far off", -1, tub.ring(0, no));
        due.is("no child", -1, new BranTub().ring(0, 0));
    }

    private static void image(String what, BranTub tub, int... want) {
        due.is(what, want.length, tub.image());
        for (int k = 0; k < want.length; k++) due.is(what + ": byte " + k, want[k], tub.octet(k));
        due.is(what + ": behind it", -1, tub.octet(want.length));
    }

    private static void images() {
        due.says("all ahead from 109 on, c = (5 c + it) mod 251");
        BranTub tub = new BranTub();
        image("three bytes of 0", tub, 0, 0, 0, 71);
        tub.hour();
        image("hour 1", tub, 1, 0, 0, 96);
        // 5 * 109 = 545 and 99 are 644, 142 more than 502; 710 are 208; 1040 are 36
        Due.on(tub, 99, 0, 0);
        image("hour 99", tub, 99, 0, 0, 36);
        due.says("HOUR (a byte), dips (two bytes, the higher first)");
        int[][] dips = {{0, 255}, {1, 0}, {1, 1}, {39, 15}};
        for (int[] two : dips) {
            Due.on(tub, 3, two[0], two[1]);
            due.is("dips", two[0] * 256 + two[1], tub.has(5));
            image("dips", tub, Due.sign(new int[] {3, two[0], two[1], 0}));
        }
        BranTub counted = Due.tub(TWO);
        Due.on(counted, 0, 0, 255, 9, 9, 9, 9, 0, 50, 0, 0, 0, 0, 0, 50, 0, 0, 0, 0);
        counted.dip(0);
        counted.image();
        due.is("256 dips: higher", 1, counted.octet(1));
        due.is("256 dips: lower", 0, counted.octet(2));
        due.says("for each LAYER how many of each KIND; for each CHILD his purse, how many he has of each KIND (two bytes each)");
        BranTub two = Due.tub(TWO + "purse 999;costs 99;");
        image("at first", two, Due.sign(new int[] {0, 0, 0, 2, 1, 0, 3, 3, 231, 0, 0, 0, 0, 3, 231, 0, 0, 0, 0, 0}));
        int[] full = {99, 39, 15, 99, 98, 97, 96, 3, 231, 39, 15, 0, 255, 1, 0, 1, 1, 2, 3};
        due.is("on", true, Due.on(two, full));
        image("as it was put on", two, Due.sign(java.util.Arrays.copyOf(full, 20)));
        due.says("AN IMAGE is written: how many bytes.");
        BranTub most = Due.tub(Due.many(8, "kind k# worth 1 size 1;") + Due.many(5, "layer ka 1;") + Due.many(8, "child c# reach 1 feels 0 first;"));
        due.is("the longest", 188, most.image());
        due.is("its last byte is there", true, most.octet(187) >= 0);
        due.is("none behind", -1, most.octet(188));
        due.is("the shortest", 4, new BranTub().image());
    }

    private static void octets() {
        due.says("Byte k of the latest image(); NONE when there is none such.");
        BranTub tub = new BranTub();
        due.is("none yet", -1, tub.octet(0));
        tub.image();
        tub.hour();
        due.is("of the latest", 0, tub.octet(0));
        due.is("its last", 71, tub.octet(3));
        due.is("4", -1, tub.octet(4));
        due.is("-1", -1, tub.octet(-1));
        for (int no : FAR) due.is("far off", -1, tub.octet(no));
        Due.fete(tub, TWO);
        due.is("of the latest, another fete's", 71, tub.octet(3));
        due.is("of the latest, another fete's", -1, tub.octet(4));
        tub.image();
        due.is("the latest", 1, tub.octet(4));
        tub.fete();
        tub.image();
        due.is("a shorter one", -1, tub.octet(4));
    }

    private static void imagesOn() {
        due.says("true, all is as it tells, nothing is KEPT, no ACT can be undone");
        BranTub tub = Due.tub(TWO);
        tub.dip(0);
        tub.hour();
        tub.seed(9);
        due.is("on", true, Due.on(tub, 7, 1, 2, 3, 4, 5, 6, 0, 8, 0, 9, 0, 10, 0, 11, 0, 12, 0, 13));
        due.is("hour", 7, tub.has(3));
        due.is("dips", 258, tub.has(5));
        int[] parcels = {3, 4, 5, 6};
        for (int i = 0; i < 4; i++) due.is("layer " + i / 2 + " kind " + i % 2, parcels[i], tub.layer(i / 2, i % 2));
        due.is("purse of p", 8, tub.child(0, 3));
        due.is("purse of q", 11, tub.child(1, 3));
        int[] had = {9, 10, 12, 13};
        for (int i = 0; i < 4; i++) due.is("child " + i / 2 + " kind " + i % 2, had[i], tub.likes(i / 2, i % 2, 1));
        due.is("nothing is kept", 0, tub.has(9));
        due.is("nothing is kept", -1, tub.kept(0, 0));
        due.is("no act", 0, tub.has(10));
        due.is("no undo", false, tub.undo());
        due.is("the seed stays", 9, tub.has(11));
        due.is("none refused", 0, tub.status(5));
        due.is("nothing of it all", true, Due.on(tub, new int[19]));
        due.is("empty", 0, tub.has(3) + tub.has(4) + tub.has(5) + tub.has(7) + tub.has(8));
        due.says("The tape (it goes, refused or not) is AN IMAGE of this FETE");
        due.is("it went", false, tub.end(1));
        due.is("refused", false, Due.on(tub, 0));
        due.is("it went", false, tub.end(1));
        due.is("a full one", true, Due.on(tub, 7, 1, 2, 3, 4, 5, 6, 0, 8, 0, 9, 0, 10, 0, 11, 0, 12, 0, 13));
        Due.fete(tub, "kind a worth 5 size 2;layer a 2;child p reach 1 feels 0 first;");
        due.is("a smaller one behind it", true, Due.on(tub, 0, 0, 0, 4, 0, 5, 0, 6));
        due.is("no other parcels", 4, tub.has(4));
        due.is("no other coins", 5, tub.has(7));
        due.is("no other had", 6, tub.has(8));
    }

    /** One byte more than what may be is refused, and what may be is not. */
    private static void most(String what, int at, int[] most, int[] more) {
        String text = "kind a worth 5 size 2;kind b worth 5 size 2;layer a 3;layer a 3;child p reach 1 feels 0 first;child q reach 1 feels 0 first;";
        for (int[] bytes : new int[][] {most, more}) {
            BranTub tub = Due.tub(text);
            tub.dip(1);
            int[] image = new int[19];
            for (int i = 0; i < bytes.length; i++) image[at + i] = bytes[i];
            boolean fine = bytes == most;
            due.is(what + (fine ? " may be" : " may not be"), fine, Due.on(tub, image));
            due.is(what + " refused", fine ? 0 : 1, tub.status(5));
            due.is(what + " kept", fine ? 0 : 1, tub.has(9));
            due.is(what + " dips", fine ? image[1] * 256 + image[2] : 1, tub.has(5));
        }
    }

    private static void imagesAtMost() {
        due.says("(HOUR 99, 9999 dips, 99 parcels of a KIND in a LAYER, 9999 that a CHILD has, purses 999 at most)");
        most("hour", 0, new int[] {99}, new int[] {100});
        most("dips", 1, new int[] {39, 15}, new int[] {39, 16});
        for (int at = 3; at < 7; at++) most("parcels at " + at, at, new int[] {99}, new int[] {100});
        for (int at = 7; at < 19; at += 6) {
            most("purse at " + at, at, new int[] {3, 231}, new int[] {3, 232});
            most("a had at " + at, at + 2, new int[] {39, 15}, new int[] {39, 16});
            most("b had at " + at, at + 4, new int[] {39, 15}, new int[] {39, 16});
        }
        most("hour", 0, new int[] {0}, new int[] {255});
        most("dips", 1, new int[] {38, 255}, new int[] {255, 255});
        most("parcels", 3, new int[] {0}, new int[] {255});
        most("purse", 7, new int[] {2, 255}, new int[] {255, 255});
        most("had", 9, new int[] {38, 255}, new int[] {40, 0});
    }

    private static void imagesRefused() {
        due.says("false, refused (5), all staying, if it is none such");
        BranTub tub = Due.tub(TWO + "costs 1;");
        tub.dip(0);
        tub.hour();
        Due.row(tub, 0, 0);
        long seed = tub.has(11);
        int length = tub.image();
        int[] own = new int[length];
        for (int k = 0; k < length; k++) own[k] = tub.octet(k);
        int[][] none = {{}, {0}, java.util.Arrays.copyOf(own, length - 1), java.util.Arrays.copyOf(own, length + 1), own.clone(), own.clone(), own.clone(),
            Due.sign(new int[length - 1]), Due.sign(new int[length + 1]), Due.sign(new int[4]), own.clone()};
        none[4][length - 1] = (own[length - 1] + 1) % 251;
        none[5][0]++;
        none[6][18]++;
        none[10][length - 1] = own[length - 1] < 5 ? own[length - 1] + 251 : 255;
        for (int n = 0; n < none.length; n++) {
            Due.bytes(tub, none[n]);
            due.is("none such, " + n, false, tub.on());
            due.is("refused", n + 1, tub.status(5));
            due.is("it went", false, tub.end(1));
            due.is("hour", 1, tub.has(3));
            due.is("dips", 1, tub.has(5));
            due.is("parcels", 5, tub.has(4));
            due.is("coins", 99, tub.has(7));
            due.is("had", 1, tub.has(8));
            due.is("kept", 1, tub.has(9));
            due.is("acts", 2, tub.has(10));
            due.is("seed", seed, tub.has(11));
            due.is("octet", own[0], tub.octet(0));
            due.is("leaves", true, tub.leaves(0, 0) >= 0);
        }
        Due.bytes(tub, own);
        due.is("its own is one", true, tub.on());
        Due.fete(tub, KINDS + "layer a 2;" + PQ);
        Due.bytes(tub, own);
        due.is("of another fete", false, tub.on());
        // a last byte above 250 is none, though it is alike mod 251
        BranTub empty = new BranTub();
        for (int dips = 0; dips < 256; dips++) {
            int[] image = Due.sign(new int[] {0, 0, dips, 0});
            if (image[3] > 4) continue;
            image[3] += 251;
            Due.bytes(empty, image);
            due.is("last byte " + image[3], false, empty.on());
        }
        due.is("five of them were asked", 5, empty.status(5));
    }

    private static void status(String what, BranTub tub, int... want) {
        for (int i = 0; i < 6; i++) due.is(what + ": status " + i, want[i], tub.status(i));
    }

    private static void statusOfEach() {
        due.says("How many were refused: 0 feed(), end(); 1 fete(); 2 dip(); 3 hour(), put(), back(), swap(), afternoon(); 4 undo(); 5 seed(), row(), on().");
        BranTub tub = new BranTub();
        status("at first", tub, 0, 0, 0, 0, 0, 0);
        tub.end(1);
        status("end", tub, 1, 0, 0, 0, 0, 0);
        for (int n = 0; n < 81; n++) tub.feed(0, 0, 0, 0, 0);
        status("feed", tub, 2, 0, 0, 0, 0, 0);
        tub.fete();
        status("fete", tub, 2, 1, 0, 0, 0, 0);
        tub.dip(0);
        status("dip", tub, 2, 1, 1, 0, 0, 0);
        Due.on(tub, 99, 0, 0);
        tub.hour();
        status("hour", tub, 2, 1, 1, 1, 0, 0);
        tub.put(0, 0, 1);
        status("put", tub, 2, 1, 1, 2, 0, 0);
        tub.back(0, 0);
        status("back", tub, 2, 1, 1, 3, 0, 0);
        tub.swap(0, 0, 1, 0);
        status("swap", tub, 2, 1, 1, 4, 0, 0);
        tub.afternoon(0);
        status("afternoon", tub, 2, 1, 1, 5, 0, 0);
        tub.undo();
        status("undo", tub, 2, 1, 1, 5, 1, 0);
        tub.seed(-1);
        status("seed", tub, 2, 1, 1, 5, 1, 1);
        tub.row();
        status("row", tub, 2, 1, 1, 5, 1, 2);
        tub.on();
        status("on", tub, 2, 1, 1, 5, 1, 3);
        tub.afternoon(1);
        tub.undo();
        tub.seed(1);
        tub.image();
        Due.fete(tub, TWO);
        Due.row(tub, 0, 0);
        tub.put(0, 0, 1);
        int kind = tub.dip(0);
        tub.back(0, kind);
        status("what is not refused, and another fete", tub, 2, 1, 1, 5, 1, 3);
        askWrongly(tub);
        status("what only tells", tub, 2, 1, 1, 5, 1, 3);
    }

    private static void askWrongly(BranTub tub) {
        tub.fault(9);
        tub.has(-1);
        tub.letter(9, 9, 9);
        tub.kind(9, 9);
        tub.layer(9, 9);
        tub.child(9, 9);
        tub.likes(9, 9, 9);
        tub.likely(9, 9);
        tub.takes(9, 9);
        tub.mean(9);
        tub.comes(9, 900);
        tub.price(9);
        tub.laid(9, 9);
        tub.kept(99, 9);
        tub.leaves(9, 9);
        tub.ring(9, 9);
        tub.octet(999);
        tub.status(9);
    }

    private static void statusOfOthers() {
        due.says("NONE for others.");
        BranTub tub = new BranTub();
        due.is("6", -1, tub.status(6));
        due.is("-1", -1, tub.status(-1));
        for (int no : FAR) due.is("far off", -1, tub.status(no));
    }
}
