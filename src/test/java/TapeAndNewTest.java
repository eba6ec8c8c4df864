/** Promises 1 to 3: a new object, feed, end. */
public final class TapeAndNewTest {
    private static final Due due = new Due();

    public static void main(String[] args) {
        newObject();
        feeding();
        ending();
        due.close();
    }

    private static void newObject() {
        BranTub tub = new BranTub();
        for (int what = 0; what <= 10; what++) due.is("new has(" + what + ")", 0, tub.has(what));
        due.is("new seed", 1, tub.has(11));
        due.is("has(12)", -1, tub.has(12));
        due.is("has(-1)", -1, tub.has(-1));
        due.is("new fault", 0, tub.fault(0));
        due.is("new place", -1, tub.fault(1));
        due.is("fault(2)", -1, tub.fault(2));
        due.is("fault(-1)", -1, tub.fault(-1));
        for (int what = 0; what < 6; what++) due.is("new status(" + what + ")", 0, tub.status(what));
        due.is("new octet", -1, tub.octet(0));
        due.is("new leaves", -1, tub.leaves(0, 0));
        due.is("new kept", -1, tub.kept(0, 0));
        due.is("new kind", -1, tub.kind(0, 0));
        due.is("new layer", -1, tub.layer(0, -1));
        due.is("new child", -1, tub.child(0, 0));
        due.is("NONE", -1, BranTub.NONE);
    }

    private static void feeding() {
        BranTub tub = new BranTub();
        for (int n = 1; n <= 80; n++) due.is("feed " + n, 20 * n, tub.feed(0x20202020, 0x20202020, 0x20202020, 0x20202020, 0x20202020));
        due.is("feed 81", -1, tub.feed(0, 0, 0, 0, 0));
        due.is("feed 82", -1, tub.feed(0, 0, 0, 0, 0));
        due.is("refused", 2, tub.status(0));
        due.is("cut", true, tub.end(1581));
        due.is("no room for 20", -1, tub.feed(0, 0, 0, 0, 0));
        due.is("cut", true, tub.end(1580));
        due.is("just room", 1600, tub.feed(0x20202020, 0x20202020, 0x20202020, 0x20202020, 0x20202020));
        due.is("1600 blanks are a fete", 0, tub.fete());
        due.is("the tape is gone", 20, tub.feed(0, 0, 0, 0, 0));
        // the highest byte first, each number behind the other: "purse 9;" and blanks
        due.is("cut", true, tub.end(0));
        due.is("feed", 20, tub.feed(0x70757273, 0x65203939, 0x393b2020, 0x20200a0a, 0x20202020));
        due.is("told", 1, tub.fete());
        due.is("bytes above 127", 20, tub.feed(0xfffefdfc, 0, 0, 0, 0));
        due.is("no text", -1, tub.fete());
        due.is("place", 0, tub.fault(1));
    }

    private static void ending() {
        BranTub tub = new BranTub();
        due.is("end(0) of none", true, tub.end(0));
        due.is("end(1) of none", false, tub.end(1));
        due.is("end(-1)", false, tub.end(-1));
        due.is("end(least)", false, tub.end(Integer.MIN_VALUE));
        tub.feed(0x70757273, 0x65203132, 0x3b202020, 0x20202020, 0x2020207a);
        due.is("end(21)", false, tub.end(21));
        due.is("end(most)", false, tub.end(Integer.MAX_VALUE));
        due.is("refused", 5, tub.status(0));
        due.is("end(20)", true, tub.end(20));
        due.is("end(19)", true, tub.end(19));
        due.is("end(20) of 19", false, tub.end(20));
        due.is("feed goes on at 19", 39, tub.feed(0x20202020, 0x20202020, 0x20202020, 0x20202020, 0x20202020));
        due.is("cut off is gone", 1, tub.fete());
        due.is("refused", 6, tub.status(0));
    }
}
