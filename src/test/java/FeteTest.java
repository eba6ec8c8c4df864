/** Promises 4, 5, 7 (and what a FETE is): texts that are one, and each FAULT at its place. */
public final class FeteTest {
    private static final Due due = new Due();
    private static final String KIND = "kind a worth 5 size 1;";
    private static final String CHILD = "child c reach 1 feels 0 first;";

    public static void main(String[] args) {
        texts();
        forms();
        wordsAndNumbers();
        names();
        numbers();
        openings();
        tooMany();
        staysAndGoes();
        letters();
        sums();
        tests();
        due.close();
    }

    private static void texts() {
        due.fine(0, "");
        due.fine(0, " \n ");
        due.fine(1, KIND);
        due.fine(1, "kind\na\nworth\n0\nsize\n9\n;\n");
        due.fine(2, KIND + "layer a 30;");
        due.fine(3, KIND + "kind b worth 99 size 1;layer b 1 a 1;");
        due.fine(1, "child c reach 5 feels 3 small;");
        due.fine(4, "child c reach 1 feels 0 large;" + KIND + "likes c a 0;likes c a 99;");
        due.fine(3, "purse 0;purse 999;purse 0999;");
        due.fine(1, "costs 9999;");
        due.fine(1, "costs min(1,max(hour,left))*(dips-worth)/size%mean+0000;");
        due.fine(1, "puts all;");
        due.fine(1, "puts not[1<2 and 3>4]or all;");
        due.fine(1, "kind abcdef worth 1 size 1;");
        due.fine(1, "kind firsts worth 1 size 1;");
        due.fine(2, "kind z worth 1 size 1;kind zz worth 1 size 1;");
    }

    private static void forms() {
        due.fault(1, "^;");
        due.fault(1, KIND + "^;");
        due.fault(1, "^9");
        due.fault(1, "^first a;");
        due.fault(1, " ^a worth 5;");
        due.fault(1, "^kin a worth 5 size 1;");
        due.fault(1, "kind ^7 worth 5 size 1;");
        due.fault(1, "kind a ^size 5 size 1;");
        due.fault(1, "kind a ^worths 5 size 1;");
        due.fault(1, "kind a worth ^size 1;");
        due.fault(1, "kind a worth 5 ^; size 1;");
        due.fault(1, "kind a worth ^-5 size 1;");
        due.fault(1, "kind a worth 5 size 1 ^kind");
        due.fault(1, "kind ^Abc worth 5 size 1;");
        due.fault(1, "kind a^B worth 5 size 1;");
        due.fault(1, "kind a^\tworth 5 size 1;");
        due.fault(1, "kind a^\rworth 5 size 1;");
        due.fault(1, "kind ^\u00e4 worth 5 size 1;");
        due.fault(1, "kind ^\u0000");
        due.fault(1, "kind^");
        due.fault(1, "kind a worth 5 size 1^");
        due.fault(1, "kind a worth 5 size 1 \n ^");
        due.fault(1, "kind a worth 5^");
        due.fault(1, KIND + "layer ^;");
        due.fault(1, KIND + "layer a ^;");
        due.fault(1, KIND + "layer a 1 ^1;");
        due.fault(1, KIND + "layer a 1 ^size;");
        due.fault(1, KIND + "layer a 1^");
        due.fault(1, "child c reach 1 feels 0 ^firsts;");
        due.fault(1, "child c reach 1 feels 0 ^likes;");
        due.fault(1, "child c reach 1 feels 0 ^feels;");
        due.fault(1, "child c reach 1 feels 0 ^;");
        due.fault(1, "child c reach 1 feels 0 first ^best;");
        due.fault(1, KIND + CHILD + "likes ^5;");
        due.fault(1, KIND + CHILD + "likes c ^5;");
        due.fault(1, KIND + CHILD + "likes c a ^a;");
        due.fault(1, "purse ^purse;");
        due.fault(1, "purse 1 ^2;");
    }

    private static void wordsAndNumbers() {
        due.fault(1, "kind sevena^b worth 1 size 1;");
        due.fault(1, "kindes^t a worth 1 size 1;");
        due.fault(1, "kind a worths^s 1 size 1;");
        due.fault(1, "purse abcdef^g;");
        due.fault(1, "purse 1234^5;");
        due.fault(1, "kind 1234^5 worth 1 size 1;");
        due.fault(1, "kind a worth 9999^99 size 1;");
        due.fault(1, "kind a worth 0000^5 size 1;");
        due.fault(1, "kind a worth^1 size 1;");
        due.fault(1, "kind a worth^12345 size 1;");
        due.fault(1, "kind a worth 1^size 1;");
        due.fault(1, "kind a worth 1 size 1;child c reach 1 feels 0^first;");
        due.fault(1, "kind a^1 worth 1 size 1;");
        due.fault(1, "purse^9;");
        due.fault(1, "costs^9;");
        due.fault(1, KIND + "layer a^1;");
        due.fault(1, KIND + "kind b worth 1 size 1;layer a 1^b 1;");
        due.fault(1, "puts 1<2^or all;");
        due.fault(1, "puts all or not^1<2;");
        due.fault(1, "puts all and^1<2;");
        due.fault(1, "costs 1^abcdefg;");
        due.fine(1, "puts[1<2]or 1=1 and(2)>1 and not all;");
    }

    private static void names() {
        due.fault(2, KIND + "kind ^a worth 1 size 1;");
        due.fault(2, KIND + "child ^a reach 1 feels 0 first;");
        due.fault(2, CHILD + "kind ^c worth 1 size 1;");
        due.fault(2, CHILD + "child ^c");
        due.fine(2, KIND + "kind ab worth 1 size 1;");
        for (String own : ModelText.OWN) {
            due.fault(1, "kind ^" + own + " worth 1 size 1;");
            due.fault(1, "child ^" + own + " reach 1 feels 0 first;");
            due.fault(1, KIND + "layer ^" + own + " 1;");
            due.fault(1, KIND + CHILD + "likes ^" + own + " a 1;");
            due.fault(1, KIND + CHILD + "likes c ^" + own + " 1;");
        }
        due.fault(3, "layer ^a 1;" + KIND);
        due.fault(3, KIND + "layer a 1 ^b 1;");
        due.fault(3, KIND + "layer a 1 ^a 2;");
        due.fault(3, KIND + CHILD + "layer ^c 1;");
        due.fault(3, KIND + CHILD + "likes ^a c 1;");
        due.fault(3, KIND + CHILD + "likes ^d a 1;");
        due.fault(3, KIND + CHILD + "likes c ^c 1;");
        due.fault(3, KIND + CHILD + "likes c ^ab 1;");
        due.fault(3, "likes ^c a 1;" + CHILD + KIND);
        StringBuilder eight = new StringBuilder();
        StringBuilder layer = new StringBuilder("layer ");
        for (int i = 0; i < 8; i++) {
            eight.append("kind k").append((char) ('a' + i)).append(" worth 1 size 1;");
            layer.append(" k").append((char) ('a' + i)).append(" 1");
        }
        due.fine(9, eight.toString() + layer + ";");
        due.fault(3, eight.toString() + layer + " ^ka 1;");
        due.fault(3, eight.toString() + layer + " ^kz");
        due.fault(1, eight.toString() + layer + " ^7");
        due.fault(1, eight.toString() + layer + " ^");
    }

    private static void numbers() {
        due.fault(4, "kind a worth ^100 size 1;");
        due.fault(4, "kind a worth ^9999 size 1;");
        due.fault(4, "kind a worth 1 size ^0;");
        due.fault(4, "kind a worth 1 size ^10;");
        due.fault(4, KIND + "layer a ^0;");
        due.fault(4, KIND + "layer a ^31;");
        due.fault(4, "child c reach ^0 feels 0 first;");
        due.fault(4, "child c reach ^6 feels 0 first;");
        due.fault(4, "child c reach 1 feels ^4 first;");
        due.fault(4, KIND + CHILD + "likes c a ^100;");
        due.fault(4, "purse ^1000;");
        due.fault(4, "purse ^9999 1;");
        due.fault(4, "kind a worth ^100size 1;");
    }

    private static void openings() {
        due.fine(1, "costs (((((((1)))))));");
        due.fault(5, "costs (((((((^(1))))))));");
        due.fault(5, "costs ((((((min(1,^(2)))))))));");
        due.fault(5, "costs (((((((min^(1,2))))))));");
        due.fine(1, "costs ((((((min(1,2)))))))+((((((max(1,2)))))));");
        due.fine(1, "puts not not not not not not not all;");
        due.fault(5, "puts not not not not not not not ^not all;");
        due.fault(5, "puts [[[[[[[^[all]]]]]]]];");
        due.fault(5, "puts not [ not [ not [ not ^[all]]]]");
        due.fault(5, "puts not not not not not not [ ^(1) < 2 ]");
        due.fine(1, "puts not not not not not not (1) < (2);");
        due.fine(1, "puts not not not not not not not all and not not not not not not not all;");
        due.fine(1, "puts [not not not not not not all and not not not not not not all or [[[[[[all]]]]]]];");
        due.fault(5, "puts not not not not not not not ^[all]");
        due.fault(1, "puts not not not not not not not ^]");
        due.fault(1, "costs (((((((1^");
        due.fault(1, "costs ^[1];");
        due.fault(1, "costs ^not 1;");
        due.fault(1, "costs (((((((^+(1");
    }

    private static void tooMany() {
        String kinds = Due.many(8, "kind k# worth 1 size 1;");
        due.fine(8, kinds);
        due.fault(6, kinds + " ^kind ki worth 1 size 1;");
        due.fault(6, kinds + "^kind");
        due.fine(6, KIND + Due.many(5, "layer a 1;"));
        due.fault(6, KIND + Due.many(5, "layer a 1;") + "^layer a 1;");
        due.fine(8, Due.many(8, "child c# reach 1 feels 0 first;"));
        due.fault(6, Due.many(8, "child c# reach 1 feels 0 first;") + "\n^child x;");
        due.fault(6, "costs 1;^costs 2;");
        due.fault(6, "puts all;^puts");
        due.fine(2, "puts all;costs 2;");
        due.fine(80, Due.many(80, "purse 1;"));
        due.fine(80, Due.many(80, "purse 1;") + " \n");
        due.fault(6, Due.many(80, "purse 1;") + " ^purse 1;");
        due.fault(6, Due.many(80, "purse 1;") + "^costs 1;");
        due.fine(80, KIND + CHILD + Due.many(78, "likes c a 9;"));
        due.fault(6, KIND + CHILD + Due.many(78, "likes c a 9;") + "^likes c a 9;");
    }

    private static void staysAndGoes() {
        BranTub tub = Due.tub(KIND + "layer a 3;" + CHILD + "purse 9;costs 1;");
        tub.seed(77);
        tub.dip(0);
        long seed = tub.has(11);
        Due.bytes(tub, new int[] {0, 0});
        tub.row();
        due.is("refused text", -1, Due.fete(tub, "kind b worth 1 size 1;kind b"));
        due.is("its fault", 2, tub.fault(0));
        due.is("its place", 27, tub.fault(1));
        due.is("the tape is gone", 20, tub.feed(0, 0, 0, 0, 0));
        tub.end(0);
        due.is("kinds stay", 1, tub.has(0));
        due.is("parcels stay", 2, tub.has(4));
        due.is("purse stays", 8, tub.child(0, 3));
        due.is("kept stays", 1, tub.has(9));
        due.is("act stays", 1, tub.has(10));
        due.is("costs stay", 1, tub.has(6));
        due.is("leaves stays", 1, tub.leaves(0, 0));
        due.is("a second text", 2, Due.fete(tub, "kind b worth 1 size 1;child d reach 1 feels 0 best;"));
        due.is("the tape is gone", 20, tub.feed(0, 0, 0, 0, 0));
        tub.end(0);
        due.is("no fault", 0, tub.fault(0));
        due.is("no place", -1, tub.fault(1));
        due.is("its kind", 1, tub.kind(0, 0));
        due.is("no layers", 0, tub.has(1));
        due.is("no parcels had", 0, tub.has(8));
        due.is("purse without", 50, tub.child(0, 3));
        due.is("nothing kept", 0, tub.has(9));
        due.is("no act", 0, tub.has(10));
        due.is("no dips", 0, tub.has(5));
        due.is("nothing costs", 0, tub.has(6));
        due.is("no row of this fete", -1, tub.leaves(0, 0));
        due.is("the seed stays", seed, tub.has(11));
        due.is("refused once", 1, tub.status(1));
        tub.hour();
        due.is("an empty text", 0, tub.fete());
        due.is("hour as at first", 0, tub.has(3));
        due.is("nothing there", 0, tub.has(0) + tub.has(1) + tub.has(2));
        due.is("the last purse counts", 7, Due.tub("purse 3;" + CHILD + "purse 7;").child(0, 3));
        due.is("the last liking counts", 4, Due.tub(KIND + CHILD + "likes c a 9;likes c a 4;").likes(0, 0, 0));
    }

    private static void letters() {
        BranTub tub = Due.tub("kind abz worth 1 size 1;kind y worth 1 size 1;child mnopqr reach 1 feels 0 first;");
        int[] abz = {1, 2, 26, 0, 0, 0};
        int[] mnopqr = {13, 14, 15, 16, 17, 18};
        for (int k = 0; k < 6; k++) {
            due.is("letter of a kind", abz[k], tub.letter(0, 0, k));
            due.is("letter of a child", mnopqr[k], tub.letter(1, 0, k));
        }
        due.is("second kind", 25, tub.letter(0, 1, 0));
        due.is("behind its name", 0, tub.letter(0, 1, 1));
        due.is("letter -1", -1, tub.letter(0, 0, -1));
        due.is("letter 6", -1, tub.letter(0, 0, 6));
        due.is("kind 2", -1, tub.letter(0, 2, 0));
        due.is("child 1", -1, tub.letter(1, 1, 0));
        due.is("child -1", -1, tub.letter(1, -1, 0));
        due.is("sort 2", -1, tub.letter(2, 0, 0));
        due.is("sort -1", -1, tub.letter(-1, 0, 0));
    }

    private static void cost(int want, String sum) {
        due.is("costs " + sum, want, Due.tub(KIND + "layer a 7;costs " + sum + ";").has(6));
    }

    private static void sums() {
        cost(5, "5");
        cost(99, "99");
        cost(99, "100");
        cost(0, "0-1");
        cost(2, "10-5-3");
        cost(14, "2+3*4");
        cost(20, "(2+3)*4");
        cost(24, "100/2%26");
        cost(3, "7/2");
        cost(1, "5+(0-7)/2");
        cost(1, "(0-7)%2");
        cost(0, "5/0+5%0");
        cost(2, "7%(0-5)+5");
        cost(1, "min(3,1)");
        cost(3, "max(3,1)");
        cost(7, "left");
        cost(0, "hour+dips+worth+size+mean");
        cost(1, "9999*9999/1000-1000+1");
        cost(1, "(0-9999)*9999/1000+1001");
        cost(50, "9999*9999+50-9999*100-50");
        cost(50, "0-9999*9999-50+9999*100+150");
        cost(98, "9999*100+100-9999*100-2");
    }

    /** A parcel of worth 5 and size 1 on the mean of 5 is put back, or is not: one draw more tells. */
    private static void holds(boolean want, String test) {
        BranTub tub = Due.tub(KIND + "layer a 7;" + CHILD + "puts " + test + ";");
        tub.dip(0);
        long x = 1103515245L + 12345L;
        long y = (1103515245L * (x % (1L << 31)) + 12345L) % (1L << 31);
        due.is("puts " + test, want ? y : x % (1L << 31), tub.has(11));
    }

    private static void tests() {
        holds(true, "all");
        holds(false, "not all");
        holds(true, "not not all");
        holds(true, "1<2");
        holds(false, "2<2");
        holds(false, "1>2");
        holds(true, "2>1");
        holds(true, "2=2");
        holds(false, "2=1");
        holds(true, "all or all and not all");
        holds(false, "[all or all] and not all");
        holds(true, "not all and not all or all");
        holds(false, "not all or not all");
        holds(true, "not 1>2 and all");
        holds(false, "not [1>2 or all]");
        holds(true, "worth=5 and size=1 and mean=5 and left=7 and dips=0 and hour=0");
    }
}
