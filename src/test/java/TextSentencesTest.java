/** Terms I, sentence by sentence: how many there may be, how great, how long, and each FAULT at its place. */
public final class TextSentencesTest {
    private static final Due due = new Due();
    private static final String KIND = "kind a worth 5 size 1;";
    private static final String CHILD = "child c reach 1 feels 0 first;";

    public static void main(String[] args) {
        statements();
        kinds();
        layers();
        children();
        liking();
        oneEach();
        purses();
        results();
        divisions();
        sumsAndTests();
        seenInCosts();
        names();
        numbers();
        blanks();
        ownWords();
        wrongForms();
        namesGivenAndAsked();
        openAtOnce();
        tooMany();
        firstAlongTheText();
        behindTheTape();
        oneBehindAnother();
        due.close();
    }

    private static void statements() {
        due.says("{ STATEMENT ; } (80 at most)");
        due.fine(0, "");
        due.fine(0, "\n");
        due.fine(79, Due.many(79, "purse 1;"));
        due.fine(80, Due.many(80, "purse 1;"));
        due.fault(6, Due.many(80, "purse 1;") + "^purse 1;");
        due.fault(1, "purse 1^");
        due.fault(1, "purse 1;^;");
        due.fault(1, "^;purse 1;");
    }

    private static void kinds() {
        due.says("kind NAME worth N size N (0 .. 99");
        due.fine(1, "kind a worth 0 size 1;");
        due.fine(1, "kind a worth 99 size 1;");
        due.fault(4, "kind a worth ^100 size 1;");
        due.is("least", 0, Due.tub("kind a worth 0 size 1;").kind(0, 0));
        due.is("most", 99, Due.tub("kind a worth 99 size 1;").kind(0, 0));
        due.says("1 .. 9");
        due.fine(1, "kind a worth 1 size 9;");
        due.fault(4, "kind a worth 1 size ^0;");
        due.fault(4, "kind a worth 1 size ^10;");
        due.is("least", 1, Due.tub("kind a worth 1 size 1;").kind(0, 1));
        due.is("most", 9, Due.tub("kind a worth 1 size 9;").kind(0, 1));
        due.says("8 KINDS");
        due.fine(7, Due.many(7, "kind k# worth 1 size 1;"));
        due.fine(8, Due.many(8, "kind k# worth 1 size 1;"));
        due.fault(6, Due.many(8, "kind k# worth 1 size 1;") + "^kind z worth 1 size 1;");
        due.is("eight", 8, Due.tub(Due.many(8, "kind k# worth 1 size 1;")).has(0));
    }

    private static void layers() {
        due.says("layer NAME N { NAME N } (KINDS");
        due.fault(1, KIND + "layer ^;");
        due.fault(1, KIND + "layer a ^;");
        due.fault(3, KIND + CHILD + "layer ^c 1;");
        due.fine(9, Due.many(8, "kind k# worth 1 size 1;") + "layer " + Due.many(8, "k# 1 ") + ";");
        due.says("unlike ones");
        due.fault(3, KIND + "layer a 1 ^a 1;");
        due.fault(3, Due.many(8, "kind k# worth 1 size 1;") + "layer " + Due.many(8, "k# 1 ") + "^kh 1;");
        due.fine(3, KIND + "layer a 1;layer a 1;");
        due.says("1 .. 30 parcels of each");
        due.is("least", 1, Due.tub(KIND + "layer a 1;").layer(0, 0));
        due.is("most", 30, Due.tub(KIND + "layer a 30;").layer(0, 0));
        due.fault(4, KIND + "layer a ^0;");
        due.fault(4, KIND + "layer a ^31;");
        due.is("of each", 60, Due.tub(KIND + "kind b worth 1 size 1;layer a 30 b 30;").layer(0, -1));
        due.says("5 LAYERS, from above");
        due.fine(5, KIND + Due.many(4, "layer a 1;"));
        due.fine(6, KIND + Due.many(5, "layer a 1;"));
        due.fault(6, KIND + Due.many(5, "layer a 1;") + "^layer a 1;");
        BranTub five = Due.tub(KIND + "layer a 3;layer a 4;layer a 5;layer a 6;layer a 7;child c reach 1 feels 0 first;");
        due.is("five", 5, five.has(1));
        due.is("the first one is uppermost", 3, five.child(0, 6));
    }

    private static void children() {
        due.says("child NAME reach N feels N RULE (1 .. 5 LAYERS");
        due.is("least", 1, Due.tub("child c reach 1 feels 0 first;").child(0, 0));
        due.is("most", 5, Due.tub("child c reach 5 feels 0 first;").child(0, 0));
        due.fault(4, "child c reach ^0 feels 0 first;");
        due.fault(4, "child c reach ^6 feels 0 first;");
        due.says("0 .. 3 more parcels");
        due.is("least", 0, Due.tub("child c reach 1 feels 0 first;").child(0, 1));
        due.is("most", 3, Due.tub("child c reach 1 feels 3 first;").child(0, 1));
        due.fault(4, "child c reach 1 feels ^4 first;");
        due.says("8 CHILDREN");
        due.fine(7, Due.many(7, "child c# reach 1 feels 0 first;"));
        due.fine(8, Due.many(8, "child c# reach 1 feels 0 first;"));
        due.fault(6, Due.many(8, "child c# reach 1 feels 0 first;") + "^child z reach 1 feels 0 first;");
        due.is("eight", 8, Due.tub(Due.many(8, "child c# reach 1 feels 0 first;")).has(2));
        due.says("RULE being first or best or large or small");
        String[] rules = {"first", "best", "large", "small"};
        for (int rule = 0; rule < 4; rule++) {
            due.is(rules[rule], rule, Due.tub("child c reach 1 feels 0 " + rules[rule] + ";").child(0, 2));
        }
        due.fault(1, "child c reach 1 feels 0 ^feels;");
        due.fault(1, "child c reach 1 feels 0 ^likes;");
        due.fault(1, "child c reach 1 feels 0 ^worst;");
        due.fault(1, "child c reach 1 feels 0 ^;");
    }

    private static void liking() {
        due.says("likes NAME NAME N (a CHILD, a KIND, 0 .. 99");
        due.is("least", 0, Due.tub(KIND + CHILD + "likes c a 0;").likes(0, 0, 0));
        due.is("most", 99, Due.tub(KIND + CHILD + "likes c a 99;").likes(0, 0, 0));
        due.fault(4, KIND + CHILD + "likes c a ^100;");
        due.says("its worth without");
        due.is("without", 5, Due.tub(KIND + CHILD).likes(0, 0, 0));
        due.is("another's", 5, Due.tub(KIND + CHILD + "child d reach 1 feels 0 first;likes d a 9;").likes(0, 0, 0));
        due.says("the last one of these two counts");
        due.is("the last", 3, Due.tub(KIND + CHILD + "likes c a 9;likes c a 3;").likes(0, 0, 0));
        due.is("the last is 0", 0, Due.tub(KIND + CHILD + "likes c a 9;likes c a 0;").likes(0, 0, 0));
        due.is("of these two", 9, Due.tub(KIND + "kind b worth 1 size 1;" + CHILD + "likes c a 9;likes c b 3;").likes(0, 0, 0));
    }

    private static void oneEach() {
        due.says("costs SUM, puts TEST (one each)");
        due.fine(2, "costs 1;puts all;");
        due.fault(6, "costs 1;^costs 1;");
        due.fault(6, "puts all;^puts all;");
        due.fault(6, "costs 1;puts all;^costs 1;");
        due.fault(1, "costs ^;");
        due.fault(1, "puts ^;");
        due.fault(1, "costs ^all;");
        due.fault(1, "puts 1^;");
        due.fault(1, "costs 1 ^< 2;");
    }

    private static void purses() {
        due.says("purse N (0 .. 999");
        due.is("least", 0, Due.tub("purse 0;" + CHILD).child(0, 3));
        due.is("most", 999, Due.tub("purse 999;" + CHILD).child(0, 3));
        due.fault(4, "purse ^1000;");
        due.says("what each CHILD has");
        due.is("all eight", 7992, Due.tub(Due.many(8, "child c# reach 1 feels 0 first;") + "purse 999;").has(7));
        due.says("the last one counts");
        due.is("the last", 3, Due.tub("purse 8;" + CHILD + "purse 3;").child(0, 3));
        due.says("50 without");
        due.is("without", 50, Due.tub(CHILD).child(0, 3));
    }

    private static void cost(int want, String sum) {
        due.is("costs " + sum, want, Due.tub(KIND + "layer a 7;costs " + sum + ";").has(6));
    }

    /** 999999 is 9999*100+99; what is told of such a sum is what it is above 999950. */
    private static void results() {
        due.says("each result above 10 to the 6 is that");
        cost(49, "9999*100+99-9999*100-50");
        cost(50, "9999*100+99+1-(9999*100+50)");
        cost(50, "9999*100+99+2-(9999*100+50)");
        cost(50, "1000*1000-(9999*100+50)");
        cost(50, "1000*1001-(9999*100+50)");
        cost(49, "999*1001-(9999*100+50)");
        cost(50, "0-(0-1000*1000)+1-(9999*100+50)");
        cost(50, "9999*100-(0-101)-(9999*100+50)");
        cost(50, "9999*9999*9999*9999/1000-950");
        cost(50, "9999*9999*(9999*9999)/1000-950");
        due.says("below -10 to the 6 likewise");
        cost(51, "0-9999*100-99+9999*100+150");
        cost(50, "0-9999*100-99-1+9999*100+150");
        cost(50, "0-9999*100-99-2+9999*100+150");
        cost(50, "(0-1000)*1000+9999*100+150");
        cost(50, "(0-1000)*1001+9999*100+150");
        cost(51, "(0-999)*1001+9999*100+150");
        cost(50, "(0-1000*1000)+(0-1)+9999*100+150");
        cost(50, "9999*9999*(0-9999*9999)/1000+1050");
        due.says("All from the left on");
        cost(2, "9-4-3");
        cost(2, "16/4/2");
        cost(4, "9/4*2");
        cost(3, "17%7*9%4");
        cost(1, "7-2*3");
        due.says("it costs the SUM of costs, 0 .. 99 (0 without)");
        cost(0, "0-1");
        cost(0, "0-9999*9999");
        cost(0, "0");
        cost(99, "99");
        cost(99, "100");
        cost(99, "9999*9999");
        due.is("without", 0, Due.tub(KIND + "layer a 7;").has(6));
    }

    private static void divisions() {
        due.says("/ gives the greatest whole number not above");
        cost(3, "7/2");
        cost(6, "10+(0-7)/2");
        cost(6, "10+7/(0-2)");
        cost(3, "(0-7)/(0-2)");
        cost(6, "10+(0-8)/2");
        cost(9, "10+(0-1)/9999");
        cost(0, "1/9999");
        due.says("% what is left (a less b times that)");
        cost(1, "7%2");
        cost(1, "(0-7)%2");
        cost(9, "10+7%(0-2)");
        cost(9, "10+(0-7)%(0-2)");
        cost(10, "10+(0-8)%2");
        cost(98, "(0-9901)%9999");
        due.says("by 0 both give 0");
        cost(1, "1+7/0");
        cost(1, "1+7%0");
        cost(1, "1+0/0");
        cost(1, "1+0%0");
        cost(1, "1+(0-7)/(3-3)");
        cost(1, "1+(0-7)%(3-3)");
        due.says("min ( SUM , SUM ) ; max ( SUM , SUM )");
        cost(2, "min(2,3)");
        cost(2, "min(3,2)");
        cost(3, "max(2,3)");
        cost(3, "max(3,2)");
        cost(2, "max(2,2)");
        cost(7, "10+min(0-3,2)");
    }

    private static void sumsAndTests() {
        due.says("SUM: PRODUCT { + or - PRODUCT }");
        cost(5, "5");
        cost(6, "1+2+3");
        cost(7, "9-3+1");
        cost(27, "2*3+4*5+1");
        for (String sign : new String[] {"+", "-", "*", "/", "%"}) {
            due.fault(1, "costs ^" + sign + "1;");
            due.fault(1, "costs 1" + sign + "^;");
            due.fault(1, "costs 1" + sign + "^" + sign + "1;");
            due.fault(1, "costs 1" + sign + "2^)" + ";");
            due.fault(1, "puts 1" + sign + "2^;");
        }
        due.fault(1, "costs 1 ^2;");
        due.fault(1, "costs 1^,2;");
        due.fault(1, "costs 1^=2;");
        due.says("PRODUCT: PART { * or / or % PART }");
        cost(24, "2*3*4");
        cost(8, "12/3*2");
        cost(6, "17%10*3%8+1");
        cost(5, "5+2%2");
        due.says("PART: N; hour; left; dips; worth; size; mean; ( SUM )");
        cost(21, "3*(2+5)");
        cost(5, "((5))");
        cost(14, "left+(left)");
        cost(1, "1+hour+dips+worth+size+mean");
        for (String no : new String[] {"()", "[1]", "all", "not 1", "kind", "purse", "a", "<", "1 2"}) {
            int place = no.equals("()") || no.equals("1 2") ? no.length() - 1 : 0;
            due.fault(1, "costs 3*" + no.substring(0, place) + "^" + no.substring(place) + ";");
        }
        due.fault(1, "costs (1^;");
        due.fault(1, "costs (1^];");
        due.fault(1, "costs min ^1;");
        due.fault(1, "costs min(1^);");
        due.fault(1, "costs max(1,2^,3);");
        due.fault(1, "costs max(^,2);");
        due.says("FACT: not FACT; [ TEST ] ; all");
        due.fine(1, "puts not not all;");
        due.fine(1, "puts not[not[all]];");
        due.fine(1, "puts [all or 1<2 and not all];");
        due.fine(1, "puts (1)<(2);");
        due.fault(1, "puts not^;");
        due.fault(1, "puts [^];");
        due.fault(1, "puts [all^;");
        due.fault(1, "puts [all^);");
        due.fault(1, "puts (^all);");
        due.fault(1, "puts (1^<2);");
        due.fault(1, "puts all^=all;");
        due.fault(1, "puts all ^all;");
        due.fault(1, "puts 1<2^<3;");
        due.fault(1, "puts all or^;");
        due.fault(1, "puts all and^;");
        due.fault(1, "puts ^or all;");
        due.fault(1, "puts [all]^<1;");
        due.fault(1, "puts 1<^[all];");
        due.fault(1, "puts 1<^not all;");
        due.fault(1, "puts 1^!1;");
    }

    private static void seenInCosts() {
        due.says("in costs 0 all three");
        cost(0, "worth");
        cost(0, "size");
        cost(0, "mean");
        cost(1, "worth+1");
        cost(1, "size+1");
        cost(1, "mean+1");
        BranTub put = Due.tub(KIND + "layer a 2;" + CHILD + "costs worth+size+mean;puts worth=5 and size=1 and mean=5;");
        put.dip(0);
        due.is("behind a test of puts", 0, put.has(6));
        put.dip(0);
        due.is("nothing was paid", 50, put.child(0, 3));
        due.says("The HOUR; how many parcels are in the barrel; how many dips there were");
        BranTub tub = Due.tub(KIND + "layer a 2;layer a 4;" + CHILD + "costs hour*20+left*3+dips;");
        due.is("left alone", 18, tub.has(6));
        tub.dip(0);
        due.is("one less, one dip", 16, tub.has(6));
        tub.hour();
        due.is("and an hour", 36, tub.has(6));
    }

    private static void names() {
        due.says("NAMES: 1 to 6 letters");
        due.fine(1, "kind a worth 1 size 1;");
        due.fine(1, "kind abcdef worth 1 size 1;");
        due.fault(1, "kind abcdef^g worth 1 size 1;");
        due.fault(1, "kind abcdef^ghi worth 1 size 1;");
        due.fault(1, "kind ^worth 1 size 1;");
        due.fine(1, "child z reach 1 feels 0 first;");
        due.fine(1, "child zyxwvu reach 1 feels 0 first;");
        due.fault(1, "child zyxwvu^t reach 1 feels 0 first;");
        due.fault(1, "kind ^` worth 1 size 1;");
        due.fault(1, "kind ^{ worth 1 size 1;");
        due.fault(1, "kind a^` worth 1 size 1;");
        due.fault(1, "kind z^{ worth 1 size 1;");
        due.fault(1, "kind ^A worth 1 size 1;");
        due.says("unlike ones (of all sorts)");
        due.fault(2, KIND + "kind ^a worth 1 size 1;");
        due.fault(2, KIND + "child ^a reach 1 feels 0 first;");
        due.fault(2, CHILD + "kind ^c worth 1 size 1;");
        due.fault(2, CHILD + "child ^c reach 1 feels 0 first;");
        due.fine(3, "kind abcde worth 1 size 1;kind abcdef worth 1 size 1;kind bcdef worth 1 size 1;");
        due.says("told ahead of where they are asked");
        due.fault(3, "layer ^a 1;" + KIND);
        due.fault(3, KIND + "likes ^c a 1;" + CHILD);
        due.fault(3, CHILD + "likes c ^a 1;" + KIND);
        due.fine(4, CHILD + KIND + "layer a 1;likes c a 1;");
    }

    private static void numbers() {
        due.says("NUMBERS: 1 to 4 digits");
        due.is("four", 9, Due.tub("purse 0009;" + CHILD).child(0, 3));
        due.is("one", 9, Due.tub("purse 9;" + CHILD).child(0, 3));
        due.fault(1, "purse 0009^9;");
        due.fault(1, "purse 0000^0;");
        due.fault(1, "purse 9999^9999;");
        due.fault(1, "purse ^;");
        cost(99, "9999-9900");
        due.fault(1, "costs 9999^9;");
        due.fault(1, "purse ^/;");
        due.fault(1, "purse ^:;");
        due.fault(1, "purse 1^/;");
        due.fault(1, "purse 1^:;");
        due.fault(1, "purse ^-1;");
        due.fault(1, "purse ^+1;");
        due.fault(1, "purse 1^.5;");
    }

    private static void blanks() {
        due.says("Blanks (10, 32) are where one likes");
        due.fine(2, "\n \nkind\n\na  worth 1\n size \n1 \n;\n \nlayer a\n1\n;\n");
        due.fine(2, "kind a worth 1 size 1;layer a 1;");
        due.fine(1, " costs ( 1 + 2 ) * min ( 3 , 4 ) ; ");
        due.fine(1, "costs(1+2)*min(3,4);");
        due.fine(1, " puts [ not all ] or 1 < 2 ; ");
        due.fine(1, "puts[not all]or 1<2;");
        due.fine(1, "puts not[all];");
        for (char no : new char[] {0, 8, 9, 11, 12, 13, 31, 33, 127, 128, 160, 255}) {
            due.fault(1, "^" + no + "purse 1;");
            due.fault(1, "purse^" + no + "1;");
            due.fault(1, "purse 1;^" + no);
        }
        due.says("words and numbers side by side need one");
        due.fault(1, "purse^1;");
        due.fault(1, "kind a worth 5^size 1;");
        due.fault(1, "kind a^5 worth 5 size 1;");
        due.fault(1, "^purses 1;");
        due.fault(1, KIND + "kind b worth 1 size 1;layer a 1^b 1;");
        due.fault(1, KIND + "layer a^1;");
        due.fault(1, "costs 1^hour;");
        due.fault(1, "costs hour^1;");
        due.fault(1, "puts 1=1^and all;");
        due.fault(1, "puts 1=1 and^1=1;");
        due.fault(1, "kind abcdef^7 worth 1 size 1;");
        due.fault(1, "costs 1234^a;");
    }

    private static void ownWords() {
        due.says("kind, worth, size, layer, child, reach, feels, first, best, large, small, likes, costs, puts, purse, hour, left, dips, mean, or, and, not, all, min, max");
        due.is("the words that are asked here", true, java.util.Set.of(due.sentence().split(", ")).equals(ModelText.OWN));
        due.says("OWN WORDS, which no NAME is");
        due.is("how many", 25, ModelText.OWN.size());
        for (String own : ModelText.OWN) {
            due.fault(1, "kind ^" + own + " worth 1 size 1;");
            due.fault(1, "child ^" + own + " reach 1 feels 0 first;");
            if (own.length() < 6) due.fine(1, "kind " + own + "x worth 1 size 1;");
            due.fine(1, "kind " + own.substring(1) + " worth 1 size 1;");
            due.fine(1, "child " + own.substring(0, own.length() - 1) + " reach 1 feels 0 first;");
        }
        due.says("an OWN WORD where a NAME must be");
        for (String own : ModelText.OWN) {
            due.fault(1, KIND + "layer ^" + own + " 1;");
            due.fault(1, KIND + "layer a 1 ^" + own + " 1;");
            due.fault(1, KIND + CHILD + "likes ^" + own + " a 1;");
            due.fault(1, KIND + CHILD + "likes c ^" + own + " 1;");
        }
        // these may stand where no NAME must be
        due.fault(1, "^a worth 1 size 1;");
        due.fault(1, "^worth 1;");
        due.fault(1, "costs ^a;");
        due.fault(1, "costs ^kind;");
        due.fault(1, "kind a ^size 1;");
    }

    private static void wrongForms() {
        due.says("1 the first byte with which no FETE goes on (words and numbers whole, at their first byte");
        due.fault(1, "^kinds a worth 1 size 1;");
        due.fault(1, "^kin");
        due.fault(1, "kind a ^worthy 1 size 1;");
        due.fault(1, "kind a ^wor");
        due.fault(1, "kind ^1234 worth 1 size 1;");
        due.fault(1, "kind a worth 1 ^2222;");
        due.fault(1, "^1");
        due.fault(1, "child c reach 1 feels 0 first ^small;");
        due.fault(1, "costs 1 ^1;");
        due.fault(1, "costs 1 + ^;");
        due.fault(1, "costs 1 + ^* 1;");
        due.fault(1, "costs ^-1;");
        due.fault(1, "costs min^1;");
        due.fault(1, "costs max ^;");
        due.fault(1, "costs min(1^);");
        due.fault(1, "costs min(1,2^,3);");
        due.fault(1, "costs (1^;");
        due.fault(1, "costs 1^);");
        due.fault(1, "costs ^[1];");
        due.fault(1, "puts (1 ^< 2);");
        due.fault(1, "puts [all^;");
        due.fault(1, "puts all^];");
        due.fault(1, "puts all ^all;");
        due.fault(1, "puts all ^not all;");
        due.fault(1, "puts all or ^or all;");
        due.fault(1, "puts ^and;");
        due.fault(1, "puts not ^;");
        due.fault(1, "puts 1 < 2 ^< 3;");
        due.fault(1, "puts 1 <^= 2;");
        due.says("at the text's length, if it ends too soon");
        due.fault(1, "kind^");
        due.fault(1, "kind ^");
        due.fault(1, "kind a^");
        due.fault(1, "kind a worth^");
        due.fault(1, "kind a worth 1 size 1^");
        due.fault(1, "kind a worth 1 size 1 \n\n ^");
        due.fault(1, KIND + "layer^");
        due.fault(1, KIND + "layer a^");
        due.fault(1, KIND + "layer a 1^");
        due.fault(1, "child c reach 1 feels 0^");
        due.fault(1, "child c reach 1 feels 0 first^");
        due.fault(1, KIND + CHILD + "likes c^");
        due.fault(1, KIND + CHILD + "likes c a^");
        due.fault(1, "costs^");
        due.fault(1, "costs (1+^");
        due.fault(1, "costs min(1,2^");
        due.fault(1, "puts not^");
        due.fault(1, "puts [1^");
        due.fault(1, "puts [1<2^");
        due.fault(1, "purse^");
        due.says("a 7th letter, a 5th digit at itself, whatever may stand there");
        due.fault(1, "abcdef^g");
        due.fault(1, "1234^5");
        due.fault(1, "purses^s");
        due.fault(1, "childr^en c");
        due.fault(1, "kind a abcdef^g 1 size 1;");
        due.fault(1, "kind a worth abcdef^g;");
        due.fault(1, "kind 1234^5 worth 1 size 1;");
        due.fault(1, "kind a worth 1 size 1 abcdef^gh");
        due.fault(1, "kind a worth 1 size 1 1234^56");
        due.fault(1, "child c reach 1 feels 0 smalle^st;");
        due.fault(1, "costs 1 abcdef^g;");
        due.fault(1, "costs abcdef^g;");
        due.fault(1, "puts all abcdef^g;");
        due.fault(1, "puts 1234^5;");
        due.fault(1, KIND + "layer a 1 1234^5;");
        // the number of ; is 59, of ) is 41
        due.fault(1, "purse 1 0059^9");
        due.fault(1, "costs (1 0041^1;");
        due.fault(1, "likes abcdef^g;");
    }

    private static void namesGivenAndAsked() {
        due.says("2 a NAME to be given that is there already, at its first byte");
        due.fault(2, "kind abc worth 1 size 1;kind  ^abc worth 1 size 1;");
        due.fault(2, "child abc reach 1 feels 0 first;child\n^abc");
        due.fault(2, "child abc reach 1 feels 0 first;kind ^abc;");
        due.says("3 a NAME that is none of what is asked");
        due.fault(3, KIND + "layer ^b 1;");
        due.fault(3, KIND + "layer a 1 ^b 1;");
        due.fault(3, KIND + CHILD + "layer ^c 1;");
        due.fault(3, KIND + CHILD + "likes ^a a 1;");
        due.fault(3, KIND + CHILD + "likes c ^c 1;");
        due.fault(3, KIND + CHILD + "likes ^b a 1;");
        due.fault(3, KIND + CHILD + "likes c ^b");
        due.fault(3, Due.many(8, "child c# reach 1 feels 0 first;") + "likes ^ci");
        due.fault(3, Due.many(8, "kind k# worth 1 size 1;") + "layer ^ki");
        due.fine(9, Due.many(8, "child c# reach 1 feels 0 first;") + KIND);
        due.fine(9, Due.many(8, "kind k# worth 1 size 1;") + CHILD);
        due.says("(a KIND told in that LAYER already, too), at its first byte");
        due.fault(3, KIND + "layer a 1 ^a");
        due.fault(3, KIND + "kind b worth 1 size 1;layer a 1 b 1 ^a 1;");
        due.fine(4, KIND + "kind b worth 1 size 1;layer a 1 b 1;layer b 1 a 1;");
        due.says("4 a NUMBER that can't be, at its first byte");
        due.fault(4, "purse   ^1000");
        due.fault(4, "purse ^9999;");
        due.fault(4, KIND + "layer a ^0000;");
    }

    private static void openAtOnce() {
        due.says("5 the 8th ( [ not that is open at once");
        due.fine(1, "costs (((((((1)))))));");
        due.fault(5, "costs (((((((^(1))))))));");
        due.fine(1, "puts [[[[[[[all]]]]]]];");
        due.fault(5, "puts [[[[[[[^[all]]]]]]]];");
        due.fine(1, "puts not not not not not not not all;");
        due.fault(5, "puts not not not not not not not ^not all;");
        due.fine(1, "costs ((((((min(1,2)))))));");
        due.fault(5, "costs (((((((max^(1,2))))))));");
        due.fine(1, "costs min(1,min(1,min(1,min(1,min(1,min(1,min(1,2)))))));");
        due.fault(5, "costs min(1,min(1,min(1,min(1,min(1,min(1,min(1,min^(1,2))))))));");
        due.fault(5, "costs min(min(min(min(min(min(min(min^(1,2");
        due.fine(1, "puts [not [not [not [all]]]];");
        due.fault(5, "puts [not [not [not [^not [all]]]]];");
        due.fault(5, "puts [not [not [not [^(1)<2]]]];");
        due.fine(1, "puts [not [not [not [1<2]]]];");
        due.fine(1, "puts [not [not [not (1)<2]]];");
        due.fault(5, "puts [[[[ not not not ^(1)<2;");
        due.fine(1, "costs (1)+(2)+(3)+(4)+(5)+(6)+(7)+(8)+(9);");
        due.fine(1, "costs ((((((1)+(2)))))+(((((3))))));");
        due.fault(1, "costs (((((((^[1])))))));");
        due.fault(1, "costs (((((((^not");
        due.fault(1, "costs (((((((1 ^(2");
        due.says("(not until its FACT ends)");
        due.fine(1, "puts not all and not all and not all and not all and not all and not all and not all and not all;");
        due.fine(1, "puts not not not not not not not all or not not not not not not not all;");
        due.fine(1, "puts not not not not not not (1)<(2) and (((((((1)))))))<2;");
        due.fine(1, "puts not not not not not not [all] and [[[[[[[all]]]]]]];");
        due.fault(5, "puts not not not not not not not 1+^(2)<3;");
        due.fault(5, "puts not not not not not not not 1<^(2);");
        due.fault(5, "puts not [not not not not not all] and not [not not not not not ^[all]];");
    }

    private static void tooMany() {
        due.says("6 one too many of a kind of STATEMENT (a second costs, puts, too)");
        due.fault(6, Due.many(8, "kind k# worth 1 size 1;") + " ^kind");
        due.fault(6, KIND + Due.many(5, "layer a 1;") + "\n^layer");
        due.fault(6, Due.many(8, "child c# reach 1 feels 0 first;") + "^child");
        due.fault(6, "costs 1; ^costs");
        due.fault(6, "puts all; ^puts");
        due.fine(10, Due.many(10, "purse 1;"));
        due.fine(12, KIND + CHILD + Due.many(10, "likes c a 1;"));
        due.says("the 81st STATEMENT (whatever it is), at its first byte");
        String eighty = Due.many(80, "purse 1;");
        for (String word : new String[] {"kind", "layer", "child", "likes", "costs", "puts", "purse"}) {
            due.fault(6, eighty + " \n^" + word);
        }
        due.fault(6, "costs 1;" + Due.many(79, "purse 1;") + "^costs 1;");
        due.fault(6, eighty + "^abcdefgh");
        due.fault(6, eighty + "^;");
        due.fine(80, eighty + "\n ");
        due.fault(1, Due.many(79, "purse 1;") + "purse 1^");
        due.fault(4, Due.many(79, "purse 1;") + "purse ^1000;");
    }

    private static void firstAlongTheText() {
        due.says("FAULTS, the first along the text");
        due.fault(4, "kind a worth ^100 size 0 x");
        due.fault(4, "kind a worth ^100size 1;");
        due.fault(4, "purse ^1000 @");
        due.fault(2, KIND + "kind ^a worth 100 size 0;");
        due.fault(3, KIND + "layer ^b 0 a 31;");
        due.fault(1, "kind a worth 5 ^5 size 0;");
        due.fault(5, "costs (((((((^(@");
        due.fault(1, "costs (((((((^@(");
        due.fault(6, "costs 1;^costs @");
        due.fault(1, "costs ^@1000000");
        due.fault(4, "purse ^1000;purse 2000;");
        due.fault(1, "kind a worth^12345 size 1;");
        due.fault(1, "costs 1^abcdefg;");
        due.fault(5, "puts all or [[[[[[[^[");
        due.fault(5, "puts all and [[[[[[[^[");
        due.fault(5, "puts 1<(((((((^(");
        due.fault(5, "puts (((((((^(1))))))))<1;");
        due.fault(5, "costs 1+(((((((^(");
        due.fault(5, "costs 1*(((((((^(");
        due.fault(5, "costs min(((((((^(");
        due.fault(5, "costs min(1,((((((^((");
        due.fault(5, "puts not not not not not not not ^not [");
        due.fault(1, "puts [[[[[[[all or^]");
    }

    /** Cuts the text at the mark |: what stood behind it is no more on the tape. */
    private static void cut(int what, String marked, int place) {
        int at = marked.indexOf('|');
        BranTub tub = new BranTub();
        Due.text(tub, marked.substring(0, at) + marked.substring(at + 1));
        due.is(marked, true, tub.end(at));
        due.is(marked, what == 0 ? 1 : -1, tub.fete());
        due.is(marked + ": fault", what, tub.fault(0));
        due.is(marked + ": place", place, tub.fault(1));
    }

    private static void behindTheTape() {
        due.says("The tape has its first n bytes alone");
        cut(1, "kind a worth 1 size 1|2;", 21);
        cut(1, "kind a worth 1|00 size 1;", 14);
        cut(1, "purse 1|2345;", 7);
        cut(1, "kin|d a worth 1 size 1;", 0);
        cut(1, "kind abcdef|g worth 1 size 1;", 11);
        cut(1, "kind a worth 1 size 1|;", 21);
        cut(1, "kind a worth 1 size 1 |  ;", 22);
        cut(0, "purse 1;|;", -1);
        cut(0, "purse 1;  | @", -1);
        due.says("at the text's length, if it ends too soon");
        String blanks = " ".repeat(1600);
        due.fine(0, blanks);
        for (String end : new String[] {"purse", "purse 1", "costs 1234", "kind abcdef", "costs (", "puts not", "costs 1+"}) {
            due.fault(1, blanks.substring(end.length()) + end + "^");
        }
        due.fine(1, blanks.substring(8) + "purse 1;");
        due.fault(1, blanks.substring(7) + "abcdef^g");
        due.fault(1, blanks.substring(5) + "1234^5");
    }

    /** What one text told, or where its FAULT was, is nothing to the next one on the same object. */
    private static void oneBehindAnother() {
        due.says("Of the latest fete(): its FAULT");
        BranTub tub = new BranTub();
        for (String wrong : new String[] {"purse 5 5", "kind kind", "purse", "purse 1", "costs 1;puts all;kind a worth 1 size 1;x", "costs 1;costs"}) {
            due.is(wrong, -1, Due.fete(tub, wrong));
            due.is("behind " + wrong, 4, Due.fete(tub, "kind a worth 1 size 1;costs 7;puts all;child c reach 1 feels 0 first;"));
            due.is("no fault", 0, tub.fault(0));
            due.is("costs", 7, tub.has(6));
        }
        due.says("one each");
        for (int n = 0; n < 3; n++) due.is("costs and puts once more", 2, Due.fete(tub, "costs 7;puts all;"));
        due.says("Without one all is as at first");
        BranTub many = new BranTub();
        String ones = "1" + "+1".repeat(89);
        for (int n = 0; n < 19; n++) {
            due.is("ninety", 3, Due.fete(many, "costs " + ones + ";puts " + ones + "=" + n + ";purse 9;"));
            due.is("ninety", 90, many.has(6));
        }
    }
}
