/** Promises 6, 8 to 11: has, kind, layer, child, likes. */
public final class ThingsTest {
    private static final Due due = new Due();
    private static final String TEXT = "kind a worth 5 size 2;kind b worth 0 size 9;kind c worth 99 size 1;"
            + "layer a 2;layer b 1 a 3;layer c 4;"
            + "child p reach 2 feels 3 small;child q reach 5 feels 0 first;child r reach 1 feels 1 large;child s reach 1 feels 2 best;"
            + "likes q b 0;likes p a 12;likes p a 11;purse 20;costs 3+dips;";

    public static void main(String[] args) {
        BranTub tub = Due.tub(TEXT);
        atFirst(tub);
        afterActs(tub);
        wrong(tub);
        reaching();
        due.close();
    }

    private static void row(String what, int[] want, int[] got) {
        for (int i = 0; i < want.length; i++) due.is(what + " " + i, want[i], got[i]);
    }

    private static int[] hasAll(BranTub tub) {
        int[] all = new int[12];
        for (int i = 0; i < 12; i++) all[i] = tub.has(i);
        return all;
    }

    private static int[] childAll(BranTub tub, int child) {
        int[] all = new int[7];
        for (int i = 0; i < 7; i++) all[i] = tub.child(child, i);
        return all;
    }

    private static int[] kindAll(BranTub tub, int kind) {
        int[] all = new int[4];
        for (int i = 0; i < 4; i++) all[i] = tub.kind(kind, i);
        return all;
    }

    private static void atFirst(BranTub tub) {
        row("has", new int[] {3, 3, 4, 0, 10, 0, 3, 80, 0, 0, 0, 1}, hasAll(tub));
        row("kind a", new int[] {5, 2, 5, 0}, kindAll(tub, 0));
        row("kind b", new int[] {0, 9, 1, 0}, kindAll(tub, 1));
        row("kind c", new int[] {99, 1, 4, 0}, kindAll(tub, 2));
        row("child p", new int[] {2, 3, 3, 20, 0, 0, 6}, childAll(tub, 0));
        row("child q", new int[] {5, 0, 0, 20, 0, 0, 10}, childAll(tub, 1));
        row("child r", new int[] {1, 1, 2, 20, 0, 0, 2}, childAll(tub, 2));
        row("child s", new int[] {1, 2, 1, 20, 0, 0, 2}, childAll(tub, 3));
        due.is("layer 0 of a", 2, tub.layer(0, 0));
        due.is("layer 0 of b", 0, tub.layer(0, 1));
        due.is("layer 1 of a", 3, tub.layer(1, 0));
        due.is("layer 1 of all", 4, tub.layer(1, -1));
        due.is("layer 2 of all", 4, tub.layer(2, -1));
        due.is("the last liking", 11, tub.likes(0, 0, 0));
        due.is("its worth without", 5, tub.likes(1, 0, 0));
        due.is("liked 0", 0, tub.likes(1, 1, 0));
        due.is("not had", 0, tub.likes(0, 0, 1));
        due.is("within reach", 5, tub.likes(0, 0, 2));
        due.is("out of reach", 0, tub.likes(0, 2, 2));
        due.is("within reach", 4, tub.likes(1, 2, 2));
    }

    private static void afterActs(BranTub tub) {
        due.is("s takes", 0, tub.dip(3));
        due.is("s takes", 0, tub.dip(3));
        tub.hour();
        row("has", new int[] {3, 3, 4, 1, 8, 2, 5, 73, 2, 2, 3}, java.util.Arrays.copyOf(hasAll(tub), 11));
        row("child s", new int[] {1, 2, 1, 13, 2, 10, 4}, childAll(tub, 3));
        row("child p", new int[] {2, 3, 3, 20, 0, 0, 8}, childAll(tub, 0));
        row("kind a", new int[] {5, 2, 3, 2}, kindAll(tub, 0));
        due.is("s has", 2, tub.likes(3, 0, 1));
        due.is("uppermost is empty", 0, tub.layer(0, -1));
    }

    private static void wrong(BranTub tub) {
        for (int what : new int[] {-1, 12, Integer.MAX_VALUE, Integer.MIN_VALUE}) due.is("has", -1, tub.has(what));
        for (int no : new int[] {-1, 3, Integer.MAX_VALUE, Integer.MIN_VALUE}) {
            due.is("no kind " + no, -1, tub.kind(no, 0));
            due.is("no likes " + no, -1, tub.likes(0, no, 0));
            due.is("no layer " + no, -1, tub.layer(no, 0));
            due.is("no layer " + no, -1, tub.layer(no, -1));
            due.is("others " + no, -1, tub.likes(0, 0, no));
        }
        for (int no : new int[] {3, -2, Integer.MAX_VALUE}) due.is("no kind in a layer", -1, tub.layer(0, no));
        for (int no : new int[] {-1, 4, Integer.MIN_VALUE}) {
            due.is("no child " + no, -1, tub.child(no, 0));
            due.is("no child " + no, -1, tub.likes(no, 0, 0));
            due.is("others " + no, -1, tub.kind(0, no));
        }
        due.is("others", -1, tub.child(0, 7));
        due.is("others", -1, tub.child(0, -1));
    }

    /** An empty layer counts as one behind the uppermost that is not empty, and as none ahead of it. */
    private static void reaching() {
        BranTub tub = Due.tub("kind a worth 1 size 1;layer a 1;layer a 1;layer a 5;layer a 7;"
                + "child p reach 1 feels 0 first;child q reach 2 feels 0 first;child r reach 3 feels 0 first;");
        due.is("q of two", 2, tub.child(1, 6));
        tub.dip(0);
        due.is("p of the second", 1, tub.child(0, 6));
        due.is("q of second, third", 6, tub.child(1, 6));
        due.is("r of all", 13, tub.child(2, 6));
        tub.dip(0);
        tub.put(0, 0, 1);
        due.is("p of the first", 1, tub.child(0, 6));
        due.is("q has an empty one", 1, tub.child(1, 6));
        due.is("r has an empty one", 6, tub.child(2, 6));
    }
}
