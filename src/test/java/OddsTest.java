/** Promises 12 to 17: likely, takes, mean, comes, price, laid. */
public final class OddsTest {
    private static final Due due = new Due();

    public static void main(String[] args) {
        rules();
        likeOnes();
        greatest();
        coming();
        prices();
        layers();
        likeLayers();
        wrong();
        due.close();
    }

    private static void takes(String what, BranTub tub, int child, int... want) {
        for (int kind = 0; kind < want.length; kind++) due.is(what + " " + kind, want[kind], tub.takes(child, kind));
    }

    /** One of a, two of b, three of c; two are touched: 36 ways. */
    private static void rules() {
        BranTub tub = Due.tub("kind a worth 9 size 5;kind b worth 3 size 7;kind c worth 4 size 1;layer a 1 b 2 c 3;layer a 30;"
                + "child f reach 1 feels 1 first;child g reach 1 feels 1 best;child h reach 1 feels 1 large;child i reach 1 feels 1 small;"
                + "child j reach 1 feels 0 best;");
        for (int child = 0; child < 5; child++) {
            due.is("likely a", 166, tub.likely(child, 0));
            due.is("likely b", 333, tub.likely(child, 1));
            due.is("likely c", 500, tub.likely(child, 2));
        }
        takes("first", tub, 0, 166, 333, 500);
        takes("best", tub, 1, 305, 111, 583);
        takes("large", tub, 2, 194, 555, 250);
        takes("small", tub, 3, 138, 111, 750);
        takes("one touched", tub, 4, 166, 333, 500);
        due.is("mean first", (9 + 6 + 12) * 1000 / 6, tub.mean(0));
        due.is("mean best", (9 * 11 + 3 * 4 + 4 * 21) * 1000 / 36, tub.mean(1));
        due.is("mean large", (9 * 7 + 3 * 20 + 4 * 9) * 1000 / 36, tub.mean(2));
        due.is("mean small", (9 * 5 + 3 * 4 + 4 * 27) * 1000 / 36, tub.mean(3));
    }

    /** Of like ones the first touched: those of one size share by how many there are. */
    private static void likeOnes() {
        BranTub tub = Due.tub("kind a worth 1 size 4;kind b worth 8 size 4;kind c worth 5 size 2;layer a 1 b 2 c 1;"
                + "child p reach 1 feels 1 large;child q reach 1 feels 1 best;likes q a 8;");
        takes("like sizes", tub, 0, 312, 625, 62);
        due.is("mean of like sizes", (5 * 1 + 10 * 8 + 1 * 5) * 1000 / 16, tub.mean(0));
        takes("like worths", tub, 1, 312, 625, 62);
        due.is("mean of like worths", (15 * 8 + 5) * 1000 / 16, tub.mean(1));
    }

    /** 99 of eight kinds in five layers, four touched: more than a long holds in thousandths. */
    private static void greatest() {
        StringBuilder text = new StringBuilder();
        for (int i = 0; i < 8; i++) text.append("kind k").append((char) ('a' + i)).append(" worth 99 size ").append(i / 2 + 1).append(';');
        for (int i = 0; i < 5; i++) text.append("layer ka 1;");
        BranTub tub = Due.tub(text + "child p reach 5 feels 3 large;child q reach 5 feels 3 small;");
        int[] image = new int[3 + 40 + 36];
        for (int i = 3; i < 43; i++) image[i] = 99;
        due.is("all full", true, Due.on(tub, image));
        due.is("all within reach", 3960, tub.child(0, 6));
        due.is("likely", 125, tub.likely(0, 0));
        // of 4^4 ways the greatest of four sizes is the k-th in k^4 - (k - 1)^4, halved by two kinds
        int[] ways = {1, 15, 65, 175};
        for (int kind = 0; kind < 8; kind++) {
            due.is("large " + kind, ways[kind / 2] * 1000 / 512, tub.takes(0, kind));
            due.is("small " + kind, ways[3 - kind / 2] * 1000 / 512, tub.takes(1, kind));
        }
        due.is("mean", 99000, tub.mean(0));
        due.is("laid", 99000, tub.laid(0, -1));
        for (int k = 0; k < 5; k++) due.is("laid alike", k, tub.laid(0, k));
    }

    private static void coming() {
        BranTub tub = Due.tub("kind a worth 9 size 5;kind b worth 4 size 7;layer a 1 b 1;"
                + "child p reach 1 feels 0 first;child q reach 1 feels 0 first;likes q b 99;purse 50;");
        due.is("mean", 6500, tub.mean(0));
        due.is("comes at 0", 1, tub.comes(0, 0));
        due.is("comes at 6", 1, tub.comes(0, 6));
        due.is("not at 7", 0, tub.comes(0, 7));
        due.is("not at 99", 0, tub.comes(0, 99));
        due.is("worth 54", 54000, tub.mean(1));
        due.is("has 50", 1, tub.comes(1, 50));
        due.is("not at 51", 0, tub.comes(1, 51));
        due.is("the purse bounds the price", 50, tub.price(0));
        due.is("price -1", -1, tub.comes(0, -1));
        due.is("price 100", -1, tub.comes(0, 100));
        due.is("child 2", -1, tub.comes(2, 1));
        due.is("child -1", -1, tub.comes(-1, 1));
        tub.dip(0);
        tub.dip(0);
        due.is("nothing within reach", 0, tub.comes(0, 0));
        due.is("nothing within reach", -1, tub.mean(0));
        due.is("nothing within reach", -1, tub.likely(0, 0));
        due.is("nothing within reach", -1, tub.takes(0, 0));
        due.is("nothing within reach", 0, tub.price(1));
    }

    private static BranTub worths(int... worths) {
        StringBuilder text = new StringBuilder("kind a worth 0 size 1;layer a 1;");
        for (int i = 0; i < worths.length; i++) {
            String name = "c" + (char) ('a' + i);
            text.append("child ").append(name).append(" reach 1 feels 0 first;likes ").append(name).append(" a ").append(worths[i]).append(';');
        }
        return Due.tub(text + "purse 99;");
    }

    private static void price(int price, int takings, int... worths) {
        BranTub tub = worths(worths);
        String what = "worth " + java.util.Arrays.toString(worths);
        due.is(what + " price", price, tub.price(0));
        due.is(what + " takings", takings, tub.price(1));
        due.is(what + " other", -1, tub.price(2));
        due.is(what + " other", -1, tub.price(-1));
    }

    private static void prices() {
        price(0, 0);
        price(0, 0, 0, 0);
        price(10, 10, 10);
        price(99, 99, 99);
        price(1, 1, 1);
        price(1, 2, 1, 1, 0);
        price(10, 20, 10, 19);
        price(10, 20, 10, 20);
        price(21, 21, 10, 21);
        price(7, 21, 7, 9, 21);
        price(99, 99, 30, 99);
        price(50, 100, 50, 99);
    }

    private static void laid(String what, BranTub tub, int child, int worth, int... order) {
        due.is(what + " worth", worth, tub.laid(child, -1));
        for (int k = 0; k < order.length; k++) due.is(what + " " + k, order[k], tub.laid(child, k));
        due.is(what + " behind", -1, tub.laid(child, order.length));
    }

    private static void layers() {
        BranTub tub = Due.tub("kind a worth 9 size 5;kind b worth 4 size 7;kind c worth 0 size 1;"
                + "layer c 5;layer b 2;layer a 1;layer b 1 c 1;child p reach 1 feels 0 first;child q reach 2 feels 0 first;child r reach 5 feels 0 first;");
        laid("p", tub, 0, 9000, 2, 0, 1, 3);
        laid("q", tub, 1, 17000 / 3, 1, 2, 0, 3);
        laid("r", tub, 2, 21000 / 10, 0, 1, 2, 3);
        due.is("the barrel is as it was", 5, tub.layer(0, 2));
    }

    /** Worth alike in thousandths: the first by layers; an empty layer ahead reaches no less. */
    private static void likeLayers() {
        BranTub tub = Due.tub("kind a worth 1 size 5;kind b worth 0 size 7;"
                + "layer a 1 b 2;layer a 2 b 4;layer a 10 b 20;child p reach 1 feels 0 best;child q reach 2 feels 0 best;");
        laid("alike", tub, 0, 333, 0, 1, 2);
        tub.put(0, 1, 1);
        laid("less above", tub, 0, 333, 1, 0, 2);
        BranTub empty = Due.tub("kind a worth 5 size 5;kind b worth 1 size 7;layer a 1;layer b 1;layer a 1;child p reach 2 feels 0 first;");
        laid("both a", empty, 0, 5000, 0, 2, 1);
        empty.dip(0);
        empty.dip(0);
        empty.dip(0);
        due.is("nothing in the barrel", -1, empty.laid(0, -1));
        due.is("nothing in the barrel", -1, empty.laid(0, 0));
        empty.put(2, 0, 1);
        laid("two empty ones", empty, 0, 5000, 0, 1, 2);
        empty.put(0, 1, 1);
        laid("an empty one between", empty, 0, 5000, 2, 1, 0);
    }

    private static void wrong() {
        BranTub tub = Due.tub("kind a worth 9 size 5;layer a 1;child p reach 1 feels 0 first;");
        for (int no : new int[] {-1, 1, 8, Integer.MAX_VALUE, Integer.MIN_VALUE}) {
            due.is("likely child " + no, -1, tub.likely(no, 0));
            due.is("likely kind " + no, -1, tub.likely(0, no));
            due.is("takes child " + no, -1, tub.takes(no, 0));
            due.is("takes kind " + no, -1, tub.takes(0, no));
            due.is("mean " + no, -1, tub.mean(no));
            due.is("comes " + no, -1, tub.comes(no, 0));
            due.is("laid child " + no, -1, tub.laid(no, 0));
            due.is("laid child " + no, -1, tub.laid(no, -1));
        }
        due.is("laid 1", -1, tub.laid(0, 1));
        due.is("laid -2", -1, tub.laid(0, -2));
        due.is("nothing refused", 0, tub.status(2) + tub.status(3) + tub.status(5));
    }
}
