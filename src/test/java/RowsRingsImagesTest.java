import java.util.Arrays;

/** Promises 27 to 33: row, leaves, ring, image, octet, on, status. */
public final class RowsRingsImagesTest {
    private static final Due due = new Due();

    public static void main(String[] args) {
        rows();
        rowsRefused();
        leaving();
        rings();
        ringsOfMany();
        ringsOfEight();
        images();
        imagesOn();
        imagesRefused();
        refusals();
        due.close();
    }

    private static BranTub barrel() {
        return Due.tub("kind a worth 5 size 2;kind b worth 5 size 2;kind c worth 5 size 2;layer a 1 b 1;layer a 2;layer c 1 b 1;"
                + "child p reach 1 feels 0 first;child q reach 2 feels 0 first;child r reach 3 feels 0 first;costs 99;purse 0;");
    }

    private static void rows() {
        BranTub tub = barrel();
        due.is("one", 1, Due.row(tub, 0, 0));
        due.is("the second a is out of reach", 1, Due.row(tub, 0, 0, 0, 0));
        due.is("it comes near", 3, Due.row(tub, 0, 0, 0, 1, 0, 0));
        due.is("the first can't be: none is", 0, Due.row(tub, 0, 2, 0, 0));
        due.is("the rest does not count", 1, Due.row(tub, 0, 0, 0, 0, 0, 1));
        due.is("two layers", 3, Due.row(tub, 1, 0, 1, 0, 1, 0));
        due.is("all, and no more", 6, Due.row(tub, 2, 2, 2, 1, 2, 1, 2, 0, 2, 0, 2, 0, 2, 0));
        due.is("nothing is left", 0, tub.leaves(0, 0) + tub.leaves(1, 0) + tub.leaves(2, 2));
        int[] twenty = new int[40];
        due.is("twenty rows", 1, Due.row(tub, twenty));
        due.is("no purse is asked, nothing is taken", 6, tub.has(4));
        due.is("no act", 0, tub.has(10));
        due.is("none refused", 0, tub.status(5));
        due.is("the tape is gone", 20, tub.feed(0, 0, 0, 0, 0));
    }

    private static void rowsRefused() {
        BranTub tub = barrel();
        due.is("no row", -1, tub.row());
        due.is("an odd one", -1, Due.row(tub, 0, 0, 0));
        due.is("one byte", -1, Due.row(tub, 0));
        due.is("twenty-one", -1, Due.row(tub, new int[42]));
        due.is("forty-one bytes", -1, Due.row(tub, new int[41]));
        due.is("no child", -1, Due.row(tub, 3, 0));
        due.is("no kind", -1, Due.row(tub, 0, 3));
        due.is("no child behind one that can't be", -1, Due.row(tub, 0, 2, 3, 0));
        due.is("no kind at the end", -1, Due.row(tub, 0, 0, 0, 255));
        due.is("refused", 9, tub.status(5));
        due.is("the tape is gone", 20, tub.feed(0, 0, 0, 0, 0));
        due.is("leaves", -1, tub.leaves(0, 0));
    }

    private static void leaving() {
        BranTub tub = barrel();
        due.is("ahead of any", -1, tub.leaves(0, 0));
        Due.row(tub, 1, 0, 1, 0, 2, 2);
        due.is("from the uppermost", 0, tub.leaves(0, 0));
        due.is("then the next", 1, tub.leaves(1, 0));
        due.is("left", 1, tub.leaves(0, 1));
        due.is("taken", 0, tub.leaves(2, 2));
        due.is("left", 1, tub.leaves(2, 1));
        for (int no : new int[] {-1, 3, Integer.MAX_VALUE, Integer.MIN_VALUE}) {
            due.is("no layer", -1, tub.leaves(no, 0));
            due.is("no kind", -1, tub.leaves(0, no));
        }
        Due.row(tub, 9, 9);
        due.is("a refused one changes nothing", 1, tub.leaves(1, 0));
        Due.row(tub, 0, 2);
        due.is("one of none does", 2, tub.leaves(1, 0));
        tub.put(1, 0, 3);
        tub.undo();
        due.is("acts change nothing", 2, tub.leaves(1, 0));
        Due.fete(tub, "kind");
        due.is("a text with a fault changes nothing", 2, tub.leaves(1, 0));
        tub.put(0, 0, 1);
        Due.row(tub, 0, 1);
        due.is("as it is now", 2, tub.leaves(0, 0));
        Due.fete(tub, "kind a worth 5 size 2;layer a 1;");
        due.is("another fete", -1, tub.leaves(0, 0));
    }

    /** The fete with this state: each row a child's purse and how many he has of each kind. */
    private static BranTub with(String text, int layersTimesKinds, int[]... children) {
        BranTub tub = Due.tub(text);
        int[] image = new int[3 + layersTimesKinds + children.length * children[0].length * 2 + 1];
        int at = 3 + layersTimesKinds;
        for (int[] child : children) {
            for (int n : child) {
                image[at++] = n / 256;
                image[at++] = n % 256;
            }
        }
        Due.sign(image);
        Due.bytes(tub, image);
        due.is("an image of " + text, true, tub.on());
        return tub;
    }

    private static void ring(String what, BranTub tub, int child, int takes, int offer, int round) {
        due.is(what + ": takes of", takes, tub.ring(child, 0));
        due.is(what + ": offers", offer, tub.ring(child, 1));
        due.is(what + ": leaves in", round, tub.ring(child, 2));
    }

    private static void rings() {
        String text = "kind a worth 5 size 2;kind b worth 5 size 2;kind c worth 7 size 2;"
                + "child p reach 1 feels 0 first;child q reach 1 feels 0 first;child r reach 1 feels 0 first;child s reach 1 feels 0 first;";
        BranTub alike = with(text, 0, new int[] {0, 1, 0, 0}, new int[] {0, 0, 1, 0}, new int[] {0, 0, 0, 0}, new int[] {0, 2, 2, 0});
        ring("himself, if his own is among these", alike, 0, 0, 0, 1);
        ring("q", alike, 1, 1, 1, 1);
        ring("of like ones the least kind", alike, 3, 3, 0, 1);
        for (int what = 0; what < 3; what++) due.is("has no parcel", -1, alike.ring(2, what));
        for (int no : new int[] {-1, 4, Integer.MAX_VALUE, Integer.MIN_VALUE}) due.is("no child", -1, alike.ring(no, 0));
        for (int no : new int[] {-1, 3, Integer.MAX_VALUE, Integer.MIN_VALUE}) due.is("others", -1, alike.ring(0, no));
        BranTub two = with(text + "likes p b 9;likes q a 9;", 0, new int[] {0, 1, 0, 0}, new int[] {0, 0, 1, 0}, new int[] {0, 0, 0, 1}, new int[] {0, 1, 0, 1});
        ring("p gives to q", two, 0, 1, 0, 1);
        ring("q gives to p", two, 1, 0, 1, 1);
        ring("r keeps his own", two, 2, 2, 2, 1);
        ring("s offers what is least to him, r is gone", two, 3, 3, 0, 2);
        BranTub first = with(text + "likes p c 9;likes q c 1;", 0, new int[] {0, 1, 0, 0}, new int[] {0, 0, 0, 1}, new int[] {0, 0, 0, 1}, new int[] {0, 0, 0, 1});
        ring("of like others the first", first, 0, 1, 0, 1);
        ring("he takes the first that is worth more", first, 1, 0, 2, 1);
        ring("r", first, 2, 2, 2, 1);
    }

    /** A ring of three, then those who pointed at it, each in his round. */
    private static void ringsOfMany() {
        String text = "kind a worth 1 size 2;kind b worth 1 size 2;kind c worth 1 size 2;kind d worth 1 size 2;kind e worth 1 size 2;"
                + "child p reach 1 feels 0 first;child q reach 1 feels 0 first;child r reach 1 feels 0 first;child s reach 1 feels 0 first;child t reach 1 feels 0 first;"
                + "likes p b 9;likes q c 9;likes r a 9;likes s a 9;likes s e 8;likes t d 9;likes t a 10;";
        BranTub tub = with(text, 0, new int[] {0, 1, 0, 0, 0, 0}, new int[] {0, 0, 1, 0, 0, 0}, new int[] {0, 0, 0, 1, 0, 0},
                new int[] {0, 0, 0, 0, 1, 0}, new int[] {0, 0, 0, 0, 0, 1});
        ring("p", tub, 0, 1, 0, 1);
        ring("q", tub, 1, 2, 1, 1);
        ring("r", tub, 2, 0, 2, 1);
        ring("s", tub, 3, 4, 3, 2);
        ring("t", tub, 4, 3, 4, 2);
    }

    /** Eight who all want the first's, then the second's, and so on: each keeps his own, one a round. */
    private static void ringsOfEight() {
        StringBuilder text = new StringBuilder();
        int[][] had = new int[8][9];
        for (int i = 0; i < 8; i++) {
            text.append("kind k").append((char) ('a' + i)).append(" worth ").append(90 - i).append(" size 1;");
            text.append("child c").append((char) ('a' + i)).append(" reach 1 feels 0 first;");
            had[i][1 + i] = 1;
        }
        BranTub tub = with(text.toString(), 0, had);
        for (int child = 0; child < 8; child++) ring("the " + child + ".", tub, child, child, child, child + 1);
    }

    private static void octets(BranTub tub, int... want) {
        due.is("image", want.length, tub.image());
        for (int k = 0; k < want.length; k++) due.is("octet " + k, want[k], tub.octet(k));
        due.is("octet behind", -1, tub.octet(want.length));
    }

    private static void images() {
        BranTub tub = new BranTub();
        due.is("ahead of any", -1, tub.octet(0));
        octets(tub, Due.sign(new int[4]));
        Due.fete(tub, "kind a worth 5 size 2;kind b worth 5 size 2;layer a 3 b 4;layer b 5;child p reach 1 feels 0 first;child q reach 1 feels 0 first;purse 300;costs 1;");
        due.is("the latest one stays", -1, tub.octet(4));
        octets(tub, Due.sign(new int[] {0, 0, 0, 3, 4, 0, 5, 1, 44, 0, 0, 0, 0, 1, 44, 0, 0, 0, 0, 0}));
        tub.hour();
        tub.seed(3);
        int kind = tub.dip(1);
        int[] want = {1, 0, 1, 3, 4, 0, 5, 1, 44, 0, 0, 0, 0, 1, 43, 0, 0, 0, 0, 0};
        due.is("the old one stays", 0, tub.octet(0));
        want[3 + kind]--;
        want[16 + 2 * kind]++;
        octets(tub, Due.sign(want));
        for (int no : new int[] {-1, 20, Integer.MAX_VALUE, Integer.MIN_VALUE}) due.is("octet " + no, -1, tub.octet(no));
    }

    private static void imagesOn() {
        String text = "kind a worth 5 size 2;layer a 3;child p reach 1 feels 0 first;";
        BranTub tub = Due.tub(text);
        tub.dip(0);
        tub.seed(8);
        Due.row(tub, 0, 0);
        Due.bytes(tub, Due.sign(new int[] {99, 39, 15, 99, 3, 231, 39, 15, 0}));
        due.is("the most of all", true, tub.on());
        due.is("the tape is gone", 20, tub.feed(0, 0, 0, 0, 0));
        tub.end(0);
        due.is("hour", 99, tub.has(3));
        due.is("dips", 9999, tub.has(5));
        due.is("parcels", 99, tub.layer(0, 0));
        due.is("purse", 999, tub.child(0, 3));
        due.is("had", 9999, tub.likes(0, 0, 1));
        due.is("nothing kept", 0, tub.has(9));
        due.is("no act", 0, tub.has(10));
        due.is("nothing to undo", false, tub.undo());
        due.is("the seed stays", 8, tub.has(11));
        due.is("leaves stays", 1, tub.leaves(0, 0));
        due.is("worth of them", 49995, tub.child(0, 5));
        due.is("a dip more", 0, tub.dip(0));
        due.is("ten thousand", 10000, tub.has(5));
        octets(tub, Due.sign(new int[] {99, 39, 16, 98, 3, 231, 39, 16, 0}));
        due.is("undo", true, tub.undo());
        due.is("back to the image", 9999, tub.has(5));
        int length = tub.image();
        int[] image = new int[length];
        for (int k = 0; k < length; k++) image[k] = tub.octet(k);
        tub.afternoon(3);
        Due.bytes(tub, image);
        due.is("its own image", true, tub.on());
        due.is("as it was", 99, tub.has(4));
        BranTub none = new BranTub();
        Due.bytes(none, Due.sign(new int[] {7, 1, 2, 0}));
        due.is("of no fete", true, none.on());
        due.is("hour", 7, none.has(3));
        due.is("dips", 258, none.has(5));
    }

    private static void refusedImage(String what, int... image) {
        BranTub tub = Due.tub("kind a worth 5 size 2;layer a 3;child p reach 1 feels 0 first;");
        tub.hour();
        tub.dip(0);
        Due.bytes(tub, image);
        due.is(what, false, tub.on());
        due.is(what + ": refused", 1, tub.status(5));
        due.is(what + ": the tape is gone", 20, tub.feed(0, 0, 0, 0, 0));
        due.is(what + ": hour stays", 1, tub.has(3));
        due.is(what + ": dips stay", 1, tub.has(5));
        due.is(what + ": parcels stay", 2, tub.has(4));
        due.is(what + ": had stays", 1, tub.has(8));
        due.is(what + ": purse stays", 50, tub.has(7));
        due.is(what + ": kept stays", 1, tub.has(9));
        due.is(what + ": acts stay", 2, tub.has(10));
    }

    private static void imagesRefused() {
        int[] fine = Due.sign(new int[] {9, 0, 7, 3, 0, 50, 0, 1, 0});
        int[] wrongLast = fine.clone();
        wrongLast[8] = (wrongLast[8] + 1) % 251;
        refusedImage("none");
        refusedImage("another last byte", wrongLast);
        wrongLast[8] = fine[8] + 251 > 255 ? 255 : fine[8] + 251;
        refusedImage("a last byte above 250", wrongLast);
        refusedImage("too short", Due.sign(Arrays.copyOf(fine, 8)));
        refusedImage("too long", Due.sign(Arrays.copyOf(fine, 10)));
        refusedImage("hour 100", Due.sign(new int[] {100, 0, 7, 3, 0, 50, 0, 1, 0}));
        refusedImage("10000 dips", Due.sign(new int[] {9, 39, 16, 3, 0, 50, 0, 1, 0}));
        refusedImage("100 parcels", Due.sign(new int[] {9, 0, 7, 100, 0, 50, 0, 1, 0}));
        refusedImage("purse 1000", Due.sign(new int[] {9, 0, 7, 3, 3, 232, 0, 1, 0}));
        refusedImage("10000 had", Due.sign(new int[] {9, 0, 7, 3, 0, 50, 39, 16, 0}));
        refusedImage("65535 had", Due.sign(new int[] {9, 0, 7, 3, 0, 50, 255, 255, 0}));
    }

    private static void status(BranTub tub, int... want) {
        for (int what = 0; what < 6; what++) due.is("status " + what, want[what], tub.status(what));
    }

    private static void refusals() {
        BranTub tub = new BranTub();
        tub.end(9);
        status(tub, 1, 0, 0, 0, 0, 0);
        for (int n = 0; n < 82; n++) tub.feed(0, 0, 0, 0, 0);
        status(tub, 3, 0, 0, 0, 0, 0);
        tub.fete();
        status(tub, 3, 1, 0, 0, 0, 0);
        tub.dip(0);
        status(tub, 3, 1, 1, 0, 0, 0);
        tub.put(0, 0, 1);
        tub.back(0, 0);
        tub.swap(0, 0, 1, 0);
        tub.afternoon(0);
        status(tub, 3, 1, 1, 4, 0, 0);
        for (int n = 0; n < 100; n++) tub.hour();
        status(tub, 3, 1, 1, 5, 0, 0);
        for (int n = 0; n < 21; n++) tub.undo();
        status(tub, 3, 1, 1, 5, 1, 0);
        tub.seed(-1);
        tub.row();
        tub.on();
        status(tub, 3, 1, 1, 5, 1, 3);
        tub.has(77);
        tub.kept(0, 0);
        tub.mean(0);
        tub.laid(0, 0);
        tub.comes(0, 0);
        tub.ring(0, 0);
        tub.octet(5);
        tub.leaves(0, 0);
        status(tub, 3, 1, 1, 5, 1, 3);
        Due.fete(tub, "purse 1;");
        status(tub, 3, 1, 1, 5, 1, 3);
        for (int no : new int[] {-1, 6, Integer.MAX_VALUE, Integer.MIN_VALUE}) due.is("others", -1, tub.status(no));
    }
}
