/** One dip in the bran: a fete told as a text, dips by a seed, odds, prices, rings of swaps, images. */
public final class BranTub {
    public static final int NONE = -1;

    private static final int KINDS = 8;
    private static final int LAYERS = 5;
    private static final int CHILDREN = 8;
    private static final int STATEMENTS = 80;
    private static final int TAPE_BYTES = 1600;
    private static final int NAME_LETTERS = 6;
    /** A letter takes five bits of a NAME, so that six fit one number. */
    private static final int LETTER_BITS = 5;
    private static final int NUMBER_DIGITS = 4;
    private static final int OPEN_AT_ONCE = 7;

    private static final int HOUR_MOST = 99;
    private static final int DIPS_MOST = 9999;
    private static final int LAID_MOST = 99;
    private static final int HAD_MOST = 9999;
    private static final int PURSE_MOST = 999;
    private static final int PRICE_MOST = 99;
    private static final int PUT_MOST = 30;
    private static final int ROUNDS_MOST = 20;
    private static final int UNDO_MOST = 20;
    private static final int TOLD_MOST = 60;
    private static final int ROWS_MOST = 20;

    /** What can be refused, as status() counts it. */
    private static final int REFUSED_TAPE = 0;
    private static final int REFUSED_FETE = 1;
    private static final int REFUSED_DIP = 2;
    private static final int REFUSED_ACT = 3;
    private static final int REFUSED_UNDO = 4;
    private static final int REFUSED_REST = 5;

    private static final int FAULT_FORM = 1;
    private static final int FAULT_NAME_GIVEN = 2;
    private static final int FAULT_NAME_ASKED = 3;
    private static final int FAULT_NUMBER = 4;
    private static final int FAULT_OPEN = 5;
    private static final int FAULT_MANY = 6;

    private static final int RULE_BEST = 1;
    private static final int RULE_LARGE = 2;
    private static final int RULE_SMALL = 3;

    /** The OWN WORDS in the order of the numbers below, a blank behind each. */
    private static final String OWN_WORDS = "kind worth size layer child reach feels first best large small likes costs puts purse hour left dips mean or and not all min max ";
    private static final int WORDS = 25;
    private static final int WORD_KIND = 0;
    private static final int WORD_WORTH = 1;
    private static final int WORD_SIZE = 2;
    private static final int WORD_LAYER = 3;
    private static final int WORD_CHILD = 4;
    private static final int WORD_REACH = 5;
    private static final int WORD_FEELS = 6;
    private static final int WORD_FIRST = 7;
    private static final int WORD_SMALL = 10;
    private static final int WORD_LIKES = 11;
    private static final int WORD_COSTS = 12;
    private static final int WORD_PUTS = 13;
    private static final int WORD_PURSE = 14;
    private static final int WORD_HOUR = 15;
    private static final int WORD_LEFT = 16;
    private static final int WORD_DIPS = 17;
    private static final int WORD_MEAN = 18;
    private static final int WORD_OR = 19;
    private static final int WORD_AND = 20;
    private static final int WORD_NOT = 21;
    private static final int WORD_ALL = 22;
    private static final int WORD_MIN = 23;
    private static final int WORD_MAX = 24;

    /** Steps of a SUM or TEST below 0: first what is seen (-1 - SEEN_..), then what is done. */
    private static final int SEEN_HOUR = 0;
    private static final int SEEN_LEFT = 1;
    private static final int SEEN_DIPS = 2;
    private static final int SEEN_WORTH = 3;
    private static final int SEEN_SIZE = 4;
    private static final int SEEN_MEAN = 5;
    private static final int SEEN = 6;
    private static final int DO_ADD = -11;
    private static final int DO_LESS = -12;
    private static final int DO_TIMES = -13;
    private static final int DO_DIVIDE = -14;
    private static final int DO_REST = -15;
    private static final int DO_MIN = -16;
    private static final int DO_MAX = -17;
    private static final int DO_BELOW = -18;
    private static final int DO_ABOVE = -19;
    private static final int DO_SAME = -20;
    private static final int DO_NOT = -21;
    private static final int DO_AND = -22;
    private static final int DO_OR = -23;

    private static final int[] AS_THEY_LIE = {0, 1, 2, 3, 4};

    private final Tape tape = new Tape();
    private Fete told = new Fete();
    private Fete spareFete = new Fete();
    private final Parser parser = new Parser(tape, spareFete);
    private final Tub tub = new Tub();
    private final Tub spareTub = new Tub();
    private final Tub rowTub = new Tub();
    private final History history = new History();
    private final Reach reach = new Reach();
    private final Arranger arranger = new Arranger();
    private final Rings rings = new Rings();
    private final Picture picture = new Picture();
    private final Reckoner reckoner = new Reckoner();
    private final int[] seen = new int[SEEN];
    private final int[] paysMost = new int[CHILDREN];
    private final int[] refusals = new int[REFUSED_REST + 1];
    private int drawn = 1;
    private boolean rowKnown;

    public BranTub() {
        tub.begin(told);
    }

    // ---- the tape, the fete

    public int feed(int a, int b, int c, int d, int e) {
        if (tape.length + 20 > TAPE_BYTES) return refuse(REFUSED_TAPE);
        tape.add(a);
        tape.add(b);
        tape.add(c);
        tape.add(d);
        tape.add(e);
        return tape.length;
    }

    public boolean end(int n) {
        if (n < 0 || n > tape.length) return refuseFlatly(REFUSED_TAPE);
        tape.length = n;
        return true;
    }

    public int fete() {
        boolean fine = parser.read(spareFete);
        tape.length = 0;
        if (!fine) return refuse(REFUSED_FETE);
        Fete old = told;
        told = spareFete;
        spareFete = old;
        tub.begin(told);
        history.clear();
        rowKnown = false;
        return told.statements;
    }

    public int fault(int what) {
        switch (what) {
            case 0: return parser.fault;
            case 1: return parser.place;
            default: return NONE;
        }
    }

    // ---- what there is

    public int has(int what) {
        switch (what) {
            case 0: return told.kinds;
            case 1: return told.layers;
            case 2: return told.children;
            case 3: return tub.hours;
            case 4: return tub.parcelsLeft();
            case 5: return tub.dips;
            case 6: return costNow();
            case 7: return tub.coins();
            case 8: return tub.parcelsHad();
            case 9: return history.told();
            case 10: return history.undoable;
            case 11: return drawn;
            default: return NONE;
        }
    }

    public int letter(int kind, int which, int k) {
        if (k < 0 || k >= NAME_LETTERS) return NONE;
        int name;
        if (kind == 0 && isKind(which)) name = told.kindName[which];
        else if (kind == 1 && isChild(which)) name = told.childName[which];
        else return NONE;
        return (name >> (LETTER_BITS * k)) & 31;
    }

    public int kind(int kind, int what) {
        if (!isKind(kind)) return NONE;
        switch (what) {
            case 0: return told.worth[kind];
            case 1: return told.size[kind];
            case 2: return tub.leftOf(kind);
            case 3: return tub.hadOf(kind);
            default: return NONE;
        }
    }

    public int layer(int layer, int kind) {
        if (!isLayer(layer)) return NONE;
        if (kind == NONE) return tub.parcelsIn(layer);
        return isKind(kind) ? tub.parcels[layer * KINDS + kind] : NONE;
    }

    public int child(int child, int what) {
        if (!isChild(child)) return NONE;
        switch (what) {
            case 0: return told.reach[child];
            case 1: return told.feels[child];
            case 2: return told.rule[child];
            case 3: return tub.purse[child];
            case 4: return tub.hadBy(child);
            case 5: return worthOfHad(child);
            case 6:
                lookFor(child);
                return reach.total;
            default: return NONE;
        }
    }

    public int likes(int child, int kind, int what) {
        if (!isChild(child) || !isKind(kind)) return NONE;
        switch (what) {
            case 0: return told.worthTo(child, kind);
            case 1: return tub.had[child * KINDS + kind];
            case 2:
                lookFor(child);
                return reach.counts[kind];
            default: return NONE;
        }
    }

    // ---- odds, prices

    public int likely(int child, int kind) {
        if (!isChild(child) || !isKind(kind)) return NONE;
        lookFor(child);
        return thousandths(reach.counts[kind], reach.total);
    }

    public int takes(int child, int kind) {
        if (!isChild(child) || !isKind(kind)) return NONE;
        lookFor(child);
        return thousandths(reach.ways(kind), reach.allWays());
    }

    public int mean(int child) {
        if (!isChild(child)) return NONE;
        lookFor(child);
        return thousandths(reach.worthOfAllWays(), reach.allWays());
    }

    public int comes(int child, int price) {
        if (!isChild(child) || price < 0 || price > PRICE_MOST) return NONE;
        return price <= paysAtMost(child) ? 1 : 0;
    }

    public int price(int what) {
        int best = 0;
        int most = 0;
        for (int child = 0; child < told.children; child++) paysMost[child] = paysAtMost(child);
        for (int price = 1; price <= PRICE_MOST; price++) {
            int takings = takingsOf(price);
            if (takings > most) {
                most = takings;
                best = price;
            }
        }
        switch (what) {
            case 0: return best;
            case 1: return most;
            default: return NONE;
        }
    }

    public int laid(int child, int k) {
        if (!isChild(child) || (k != NONE && !isLayer(k))) return NONE;
        if (tub.parcelsLeft() == 0) return NONE;
        arranger.arrange(told, tub, reach, child);
        return k == NONE ? arranger.bestWorth : arranger.bestOrder[k];
    }

    // ---- acts

    public int dip(int child) {
        if (!isChild(child) || !canDip(child)) return refuse(REFUSED_DIP);
        history.remember(tub);
        return takeOne(child);
    }

    public int hour() {
        if (tub.hours >= HOUR_MOST) return refuse(REFUSED_ACT);
        history.remember(tub);
        tub.hours++;
        return tub.hours;
    }

    public int put(int layer, int kind, int n) {
        if (!isLayer(layer) || !isKind(kind) || n < 1 || n > PUT_MOST) return refuse(REFUSED_ACT);
        int spot = layer * KINDS + kind;
        if (tub.parcels[spot] + n > LAID_MOST) return refuse(REFUSED_ACT);
        history.remember(tub);
        tub.parcels[spot] += n;
        return tub.parcels[spot];
    }

    public boolean back(int child, int kind) {
        if (!owns(child, kind) || told.layers == 0) return refuseFlatly(REFUSED_ACT);
        if (tub.parcels[kind] >= LAID_MOST) return refuseFlatly(REFUSED_ACT);
        history.remember(tub);
        tub.had[child * KINDS + kind]--;
        tub.parcels[kind]++;
        return true;
    }

    public boolean swap(int child, int kind, int other, int his) {
        if (child == other || !owns(child, kind) || !owns(other, his)) return refuseFlatly(REFUSED_ACT);
        history.remember(tub);
        tub.had[child * KINDS + kind]--;
        tub.had[other * KINDS + kind]++;
        tub.had[other * KINDS + his]--;
        tub.had[child * KINDS + his]++;
        return true;
    }

    public int afternoon(int n) {
        if (n < 1 || n > ROUNDS_MOST) return refuse(REFUSED_ACT);
        history.remember(tub);
        int dipsBefore = tub.dips;
        for (int round = 0; round < n; round++) {
            int roundBefore = tub.dips;
            playRound();
            if (tub.dips == roundBefore) break;
        }
        return tub.dips - dipsBefore;
    }

    public boolean undo() {
        if (history.undoable == 0) return refuseFlatly(REFUSED_UNDO);
        history.restore(tub);
        return true;
    }

    public boolean seed(int seed) {
        if (seed < 0) return refuseFlatly(REFUSED_REST);
        drawn = seed;
        return true;
    }

    public int kept(int k, int what) {
        return history.tell(k, what);
    }

    // ---- rows, rings

    public int row() {
        int bytes = tape.length;
        tape.length = 0;
        if (!isRow(bytes)) return refuse(REFUSED_REST);
        rowTub.copy(tub);
        rowKnown = true;
        int rows = bytes / 2;
        for (int i = 0; i < rows; i++) {
            int spot = uppermost(rowTub, tape.bytes[2 * i], tape.bytes[2 * i + 1]);
            if (spot == NONE) return i;
            rowTub.parcels[spot]--;
        }
        return rows;
    }

    public int leaves(int layer, int kind) {
        if (!rowKnown || !isLayer(layer) || !isKind(kind)) return NONE;
        return rowTub.parcels[layer * KINDS + kind];
    }

    public int ring(int child, int what) {
        if (!isChild(child) || tub.hadBy(child) == 0) return NONE;
        rings.go(told, tub);
        switch (what) {
            case 0: return rings.points[child];
            case 1: return rings.offers[child];
            case 2: return rings.rounds[child];
            default: return NONE;
        }
    }

    // ---- images, refusals

    public int image() {
        picture.write(told, tub);
        return picture.length;
    }

    public int octet(int k) {
        return k >= 0 && k < picture.length ? picture.bytes[k] : NONE;
    }

    public boolean on() {
        boolean fine = Picture.read(tape, told, spareTub);
        tape.length = 0;
        if (!fine) return refuseFlatly(REFUSED_REST);
        tub.copy(spareTub);
        history.clear();
        return true;
    }

    public int status(int what) {
        return what >= 0 && what <= REFUSED_REST ? refusals[what] : NONE;
    }

    // ---- what the calls share

    private int refuse(int what) {
        refusals[what]++;
        return NONE;
    }

    private boolean refuseFlatly(int what) {
        refusals[what]++;
        return false;
    }

    private boolean isKind(int kind) {
        return kind >= 0 && kind < told.kinds;
    }

    private boolean isLayer(int layer) {
        return layer >= 0 && layer < told.layers;
    }

    private boolean isChild(int child) {
        return child >= 0 && child < told.children;
    }

    private boolean owns(int child, int kind) {
        return isChild(child) && isKind(kind) && tub.had[child * KINDS + kind] > 0;
    }

    private int worthOfHad(int child) {
        int worth = 0;
        for (int kind = 0; kind < told.kinds; kind++) {
            worth += tub.had[child * KINDS + kind] * told.worthTo(child, kind);
        }
        return worth;
    }

    private void lookFor(int child) {
        reach.look(told, tub, child, AS_THEY_LIE);
    }

    /** The whole may be above 9 * 10^15, so the thousand only meets what is left of the division. */
    private static int thousandths(long part, long whole) {
        if (whole <= 0) return NONE;
        return (int) (part / whole * 1000 + part % whole * 1000 / whole);
    }

    /** NONE when nothing is within reach. */
    private int meanFloor(int child) {
        lookFor(child);
        long all = reach.allWays();
        return all <= 0 ? NONE : (int) (reach.worthOfAllWays() / all);
    }

    private int paysAtMost(int child) {
        return Math.min(meanFloor(child), tub.purse[child]);
    }

    private int takingsOf(int price) {
        int come = 0;
        for (int child = 0; child < told.children; child++) {
            if (price <= paysMost[child]) come++;
        }
        return price * come;
    }

    private int costNow() {
        seeTub();
        seen[SEEN_WORTH] = 0;
        seen[SEEN_SIZE] = 0;
        seen[SEEN_MEAN] = 0;
        int cost = reckoner.reckon(told.steps, told.costsFrom, told.costsTo, seen);
        return Math.max(0, Math.min(PRICE_MOST, cost));
    }

    private void seeTub() {
        seen[SEEN_HOUR] = tub.hours;
        seen[SEEN_LEFT] = tub.parcelsLeft();
        seen[SEEN_DIPS] = tub.dips;
    }

    private boolean canDip(int child) {
        return tub.parcelsLeft() > 0 && tub.purse[child] >= costNow();
    }

    /** The one DIP of a child who can. */
    private int takeOne(int child) {
        int cost = costNow();
        lookFor(child);
        int spot = touch();
        for (int more = 0; more < told.feels[child]; more++) {
            int next = touch();
            if (reach.keys[next % KINDS] > reach.keys[spot % KINDS]) spot = next;
        }
        if (putsBack(spot % KINDS)) spot = touch();
        int kind = spot % KINDS;
        tub.purse[child] -= cost;
        tub.parcels[spot]--;
        tub.had[child * KINDS + kind]++;
        tub.dips++;
        history.log(child, kind, tub.hours, cost);
        return kind;
    }

    private int touch() {
        return reach.spot(tub, draw(reach.total));
    }

    private int draw(int m) {
        drawn = (int) ((1103515245L * drawn + 12345L) & 0x7fffffffL);
        return m <= 0 ? 0 : drawn / 64 % m;
    }

    private boolean putsBack(int kind) {
        seeTub();
        seen[SEEN_WORTH] = reach.worths[kind];
        seen[SEEN_SIZE] = told.size[kind];
        seen[SEEN_MEAN] = reach.plainMean();
        return reckoner.reckon(told.steps, told.putsFrom, told.putsTo, seen) != 0;
    }

    private void playRound() {
        for (int child = 0; child < told.children; child++) {
            if (canDip(child) && costNow() <= meanFloor(child)) takeOne(child);
        }
        if (tub.hours < HOUR_MOST) tub.hours++;
    }

    private boolean isRow(int bytes) {
        if (bytes < 2 || bytes > 2 * ROWS_MOST || bytes % 2 != 0) return false;
        for (int i = 0; i < bytes; i += 2) {
            if (!isChild(tape.bytes[i]) || !isKind(tape.bytes[i + 1])) return false;
        }
        return true;
    }

    /** Where the uppermost parcel of a KIND within reach of a CHILD lies; NONE when there is none. */
    private int uppermost(Tub where, int child, int kind) {
        reach.look(told, where, child, AS_THEY_LIE);
        for (int layer = reach.from; layer < reach.to; layer++) {
            if (where.parcels[layer * KINDS + kind] > 0) return layer * KINDS + kind;
        }
        return NONE;
    }

    /** The bytes that were fed. */
    private static final class Tape {
        final int[] bytes = new int[TAPE_BYTES];
        int length;

        void add(int number) {
            for (int shift = 24; shift >= 0; shift -= 8) {
                if (length < TAPE_BYTES) bytes[length++] = (number >>> shift) & 255;
            }
        }
    }

    /** What a text told; made once and told anew, so that no call makes objects. */
    private static final class Fete {
        int statements;
        int kinds;
        int layers;
        int children;
        int purse;
        final int[] kindName = new int[KINDS];
        final int[] worth = new int[KINDS];
        final int[] size = new int[KINDS];
        /** Spots: a KIND in a LAYER is at layer * KINDS + kind, here and in a Tub. */
        final int[] parcels = new int[LAYERS * KINDS];
        final int[] childName = new int[CHILDREN];
        final int[] reach = new int[CHILDREN];
        final int[] feels = new int[CHILDREN];
        final int[] rule = new int[CHILDREN];
        /** What likes told, at child * KINDS + kind; NONE where it told nothing. */
        final int[] liking = new int[CHILDREN * KINDS];
        /** A SUM or TEST as steps, what is worked on ahead of what is done; a number is itself. */
        final int[] steps = new int[TAPE_BYTES];
        int stepCount;
        int costsFrom;
        int costsTo;
        int putsFrom;
        int putsTo;

        Fete() {
            clear();
        }

        void clear() {
            statements = 0;
            kinds = 0;
            layers = 0;
            children = 0;
            purse = 50;
            for (int i = 0; i < parcels.length; i++) parcels[i] = 0;
            for (int i = 0; i < liking.length; i++) liking[i] = NONE;
            stepCount = 0;
            costsFrom = 0;
            costsTo = 0;
            putsFrom = 0;
            putsTo = 0;
        }

        void step(int step) {
            if (stepCount < TAPE_BYTES) steps[stepCount++] = step;
        }

        int worthTo(int child, int kind) {
            int liked = liking[child * KINDS + kind];
            return liked == NONE ? worth[kind] : liked;
        }

        /** How much a parcel draws a child by his RULE: the greatest key is taken. */
        int keyOf(int child, int kind) {
            switch (rule[child]) {
                case RULE_BEST: return worthTo(child, kind);
                case RULE_LARGE: return size[kind];
                case RULE_SMALL: return -size[kind];
                default: return 0;
            }
        }

        int kindNamed(int name) {
            for (int kind = 0; kind < kinds; kind++) {
                if (kindName[kind] == name) return kind;
            }
            return NONE;
        }

        int childNamed(int name) {
            for (int child = 0; child < children; child++) {
                if (childName[child] == name) return child;
            }
            return NONE;
        }
    }

    /** Reads a tape word by word; one word, number or sign is the current one. */
    private static final class Scanner {
        static final int END = 0;
        static final int WORD = 1;
        static final int NUMBER = 2;
        static final int SIGN = 3;
        static final int BROKEN = 4;

        private final int[] ownWords = new int[WORDS];
        private final Tape tape;
        private int next;
        int type;
        /** A number, a sign's byte, or a word's letters, LETTER_BITS each. */
        int value;
        /** The number of an OWN WORD; NONE for all else. */
        int own;
        int start;
        /** Where FAULT 1 lies, if the current one can't stand here. */
        int badAt;

        Scanner(Tape text) {
            tape = text;
            int word = 0;
            int letters = 0;
            int packed = 0;
            for (int i = 0; i < OWN_WORDS.length(); i++) {
                char c = OWN_WORDS.charAt(i);
                if (c != ' ') {
                    packed |= (c - 'a' + 1) << (LETTER_BITS * letters);
                    letters++;
                } else if (word < WORDS) {
                    ownWords[word++] = packed;
                    letters = 0;
                    packed = 0;
                }
            }
        }

        void begin() {
            next = 0;
            type = END;
            advance();
        }

        void advance() {
            boolean behindWord = type == WORD || type == NUMBER;
            int behind = next;
            while (next < tape.length && (tape.bytes[next] == 10 || tape.bytes[next] == 32)) next++;
            start = next;
            badAt = next;
            value = 0;
            int first = next < tape.length ? tape.bytes[next] : NONE;
            if (first >= 'a' && first <= 'z') readWord();
            else if (first >= '0' && first <= '9') readNumber();
            else readSign(first);
            boolean glued = behindWord && behind == start;
            if (glued && type != SIGN && type != END) {
                type = BROKEN;
                badAt = start;
            }
            own = type == WORD ? ownWordOf(value) : NONE;
        }

        boolean isOwn(int word) {
            return own == word;
        }

        boolean isSign(int sign) {
            return type == SIGN && value == sign;
        }

        private void readWord() {
            type = WORD;
            while (next < tape.length && tape.bytes[next] >= 'a' && tape.bytes[next] <= 'z') {
                int letters = next - start;
                if (letters == NAME_LETTERS) {
                    type = BROKEN;
                    badAt = next;
                    return;
                }
                value |= (tape.bytes[next] - 'a' + 1) << (LETTER_BITS * letters);
                next++;
            }
        }

        private void readNumber() {
            type = NUMBER;
            while (next < tape.length && tape.bytes[next] >= '0' && tape.bytes[next] <= '9') {
                if (next - start == NUMBER_DIGITS) {
                    type = BROKEN;
                    badAt = next;
                    return;
                }
                value = value * 10 + tape.bytes[next] - '0';
                next++;
            }
        }

        private void readSign(int sign) {
            type = sign == NONE ? END : SIGN;
            value = sign;
            if (type == SIGN) next++;
        }

        private int ownWordOf(int letters) {
            for (int word = 0; word < WORDS; word++) {
                if (ownWords[word] == letters) return word;
            }
            return NONE;
        }
    }

    /** Reads a text into a Fete, up to its first FAULT. */
    private static final class Parser {
        private final Scanner scan;
        private Fete fete;
        int fault;
        int place = NONE;

        Parser(Tape text, Fete first) {
            scan = new Scanner(text);
            fete = first;
        }

        boolean read(Fete into) {
            fete = into;
            fete.clear();
            fault = 0;
            place = NONE;
            scan.begin();
            for (int n = 0; n <= STATEMENTS; n++) {
                if (scan.type == Scanner.END) return true;
                if (!statement()) return false;
                fete.statements++;
            }
            return false;
        }

        private boolean fail(int what, int at) {
            fault = what;
            place = at;
            return false;
        }

        private boolean failForm() {
            return fail(FAULT_FORM, scan.badAt);
        }

        private boolean statement() {
            if (fete.statements == STATEMENTS) return fail(FAULT_MANY, scan.start);
            int word = scan.own;
            if (isOneTooMany(word)) return fail(FAULT_MANY, scan.start);
            if (!startsStatement(word)) return failForm();
            scan.advance();
            int from = fete.stepCount;
            boolean fine;
            switch (word) {
                case WORD_KIND: fine = tellKind(); break;
                case WORD_LAYER: fine = tellLayer(); break;
                case WORD_CHILD: fine = tellChild(); break;
                case WORD_LIKES: fine = tellLikes(); break;
                case WORD_PURSE: fine = tellPurse(); break;
                case WORD_COSTS:
                    fine = sum(0);
                    fete.costsFrom = from;
                    fete.costsTo = fete.stepCount;
                    break;
                default:
                    fine = test(0);
                    fete.putsFrom = from;
                    fete.putsTo = fete.stepCount;
            }
            return fine && passSign(';');
        }

        private static boolean startsStatement(int word) {
            switch (word) {
                case WORD_KIND:
                case WORD_LAYER:
                case WORD_CHILD:
                case WORD_LIKES:
                case WORD_COSTS:
                case WORD_PUTS:
                case WORD_PURSE: return true;
                default: return false;
            }
        }

        private boolean isOneTooMany(int word) {
            switch (word) {
                case WORD_KIND: return fete.kinds == KINDS;
                case WORD_LAYER: return fete.layers == LAYERS;
                case WORD_CHILD: return fete.children == CHILDREN;
                case WORD_COSTS: return fete.costsTo > 0;
                case WORD_PUTS: return fete.putsTo > 0;
                default: return false;
            }
        }

        private boolean tellKind() {
            int name = newName();
            if (name == NONE || !passOwn(WORD_WORTH)) return false;
            int worth = number(0, 99);
            if (worth == NONE || !passOwn(WORD_SIZE)) return false;
            int size = number(1, 9);
            if (size == NONE) return false;
            fete.kindName[fete.kinds] = name;
            fete.worth[fete.kinds] = worth;
            fete.size[fete.kinds] = size;
            fete.kinds++;
            return true;
        }

        private boolean tellLayer() {
            // unlike ones: one more than there can be KINDS never passes
            for (int n = 0; n <= KINDS; n++) {
                if (!tellParcels()) return false;
                if (scan.isSign(';')) break;
            }
            fete.layers++;
            return true;
        }

        private boolean tellParcels() {
            if (!isName()) return failForm();
            int kind = fete.kindNamed(scan.value);
            if (kind == NONE) return fail(FAULT_NAME_ASKED, scan.start);
            int spot = fete.layers * KINDS + kind;
            if (fete.parcels[spot] > 0) return fail(FAULT_NAME_ASKED, scan.start);
            scan.advance();
            int parcels = number(1, PUT_MOST);
            if (parcels == NONE) return false;
            fete.parcels[spot] = parcels;
            return true;
        }

        private boolean tellChild() {
            int name = newName();
            if (name == NONE || !passOwn(WORD_REACH)) return false;
            int reach = number(1, LAYERS);
            if (reach == NONE || !passOwn(WORD_FEELS)) return false;
            int feels = number(0, 3);
            if (feels == NONE) return false;
            if (scan.own < WORD_FIRST || scan.own > WORD_SMALL) return failForm();
            fete.childName[fete.children] = name;
            fete.reach[fete.children] = reach;
            fete.feels[fete.children] = feels;
            fete.rule[fete.children] = scan.own - WORD_FIRST;
            fete.children++;
            scan.advance();
            return true;
        }

        private boolean tellLikes() {
            if (!isName()) return failForm();
            int child = fete.childNamed(scan.value);
            if (child == NONE) return fail(FAULT_NAME_ASKED, scan.start);
            scan.advance();
            if (!isName()) return failForm();
            int kind = fete.kindNamed(scan.value);
            if (kind == NONE) return fail(FAULT_NAME_ASKED, scan.start);
            scan.advance();
            int worth = number(0, 99);
            if (worth == NONE) return false;
            fete.liking[child * KINDS + kind] = worth;
            return true;
        }

        private boolean tellPurse() {
            int coins = number(0, PURSE_MOST);
            if (coins == NONE) return false;
            fete.purse = coins;
            return true;
        }

        private boolean isName() {
            return scan.type == Scanner.WORD && scan.own == NONE;
        }

        /** The letters of a NAME that is given; NONE with a FAULT. */
        private int newName() {
            int name = scan.value;
            if (!isName()) {
                failForm();
                return NONE;
            }
            if (fete.kindNamed(name) != NONE || fete.childNamed(name) != NONE) {
                fail(FAULT_NAME_GIVEN, scan.start);
                return NONE;
            }
            scan.advance();
            return name;
        }

        /** A NUMBER of least .. most; NONE with a FAULT. */
        private int number(int least, int most) {
            int number = scan.value;
            if (scan.type != Scanner.NUMBER) {
                failForm();
                return NONE;
            }
            if (number < least || number > most) {
                fail(FAULT_NUMBER, scan.start);
                return NONE;
            }
            scan.advance();
            return number;
        }

        private boolean passOwn(int word) {
            if (!scan.isOwn(word)) return failForm();
            scan.advance();
            return true;
        }

        private boolean passSign(int sign) {
            if (!scan.isSign(sign)) return failForm();
            scan.advance();
            return true;
        }

        /** Passes the current ( [ not, if so many may be open; open says how many are. */
        private boolean passOpening(int open) {
            if (open >= OPEN_AT_ONCE) return fail(FAULT_OPEN, scan.start);
            scan.advance();
            return true;
        }

        private boolean test(int open) {
            if (!both(open)) return false;
            for (int n = 0; n < TAPE_BYTES && scan.isOwn(WORD_OR); n++) {
                scan.advance();
                if (!both(open)) return false;
                fete.step(DO_OR);
            }
            return true;
        }

        private boolean both(int open) {
            if (!fact(open)) return false;
            for (int n = 0; n < TAPE_BYTES && scan.isOwn(WORD_AND); n++) {
                scan.advance();
                if (!fact(open)) return false;
                fete.step(DO_AND);
            }
            return true;
        }

        private boolean fact(int open) {
            if (scan.isOwn(WORD_NOT)) {
                if (!passOpening(open) || !fact(open + 1)) return false;
                fete.step(DO_NOT);
                return true;
            }
            if (scan.isSign('[')) return passOpening(open) && test(open + 1) && passSign(']');
            if (scan.isOwn(WORD_ALL)) {
                fete.step(1);
                scan.advance();
                return true;
            }
            if (!sum(open)) return false;
            int step = comparing();
            if (step == 0) return failForm();
            scan.advance();
            if (!sum(open)) return false;
            fete.step(step);
            return true;
        }

        private int comparing() {
            if (scan.isSign('<')) return DO_BELOW;
            if (scan.isSign('>')) return DO_ABOVE;
            return scan.isSign('=') ? DO_SAME : 0;
        }

        private boolean sum(int open) {
            if (!product(open)) return false;
            for (int n = 0; n < TAPE_BYTES; n++) {
                int step = adding();
                if (step == 0) return true;
                scan.advance();
                if (!product(open)) return false;
                fete.step(step);
            }
            return true;
        }

        private int adding() {
            if (scan.isSign('+')) return DO_ADD;
            return scan.isSign('-') ? DO_LESS : 0;
        }

        private boolean product(int open) {
            if (!part(open)) return false;
            for (int n = 0; n < TAPE_BYTES; n++) {
                int step = multiplying();
                if (step == 0) return true;
                scan.advance();
                if (!part(open)) return false;
                fete.step(step);
            }
            return true;
        }

        private int multiplying() {
            if (scan.isSign('*')) return DO_TIMES;
            if (scan.isSign('/')) return DO_DIVIDE;
            return scan.isSign('%') ? DO_REST : 0;
        }

        private boolean part(int open) {
            if (scan.isSign('(')) return passOpening(open) && sum(open + 1) && passSign(')');
            if (scan.isOwn(WORD_MIN)) return ofTwo(open, DO_MIN);
            if (scan.isOwn(WORD_MAX)) return ofTwo(open, DO_MAX);
            if (scan.type == Scanner.NUMBER) {
                fete.step(scan.value);
            } else {
                int what = seenBy(scan.own);
                if (what == NONE) return failForm();
                fete.step(-1 - what);
            }
            scan.advance();
            return true;
        }

        private boolean ofTwo(int open, int step) {
            scan.advance();
            if (!scan.isSign('(')) return failForm();
            if (!passOpening(open) || !sum(open + 1) || !passSign(',')) return false;
            if (!sum(open + 1) || !passSign(')')) return false;
            fete.step(step);
            return true;
        }

        private static int seenBy(int word) {
            switch (word) {
                case WORD_HOUR: return SEEN_HOUR;
                case WORD_LEFT: return SEEN_LEFT;
                case WORD_DIPS: return SEEN_DIPS;
                case WORD_WORTH: return SEEN_WORTH;
                case WORD_SIZE: return SEEN_SIZE;
                case WORD_MEAN: return SEEN_MEAN;
                default: return NONE;
            }
        }
    }

    /** Reckons the steps of a SUM or TEST; a TEST gives 1 or 0. */
    private static final class Reckoner {
        private static final int LIMIT = 1000000;
        /** Seven may be open at once, and each holds back three at most. */
        private static final int ROOM = 64;

        private final int[] stack = new int[ROOM];
        private int height;

        int reckon(int[] steps, int from, int to, int[] seen) {
            height = 0;
            for (int i = from; i < to; i++) {
                int step = steps[i];
                if (step >= 0) push(step);
                else if (step >= -SEEN) push(seen[-1 - step]);
                else if (step == DO_NOT) push(1 - pop());
                else {
                    int b = pop();
                    int a = pop();
                    push(resultOf(step, a, b));
                }
            }
            return pop();
        }

        private void push(int value) {
            if (height < ROOM) stack[height++] = value;
        }

        private int pop() {
            return height > 0 ? stack[--height] : 0;
        }

        private static int resultOf(int step, int a, int b) {
            switch (step) {
                case DO_ADD: return limited((long) a + b);
                case DO_LESS: return limited((long) a - b);
                case DO_TIMES: return limited((long) a * b);
                case DO_DIVIDE: return b == 0 ? 0 : Math.floorDiv(a, b);
                case DO_REST: return b == 0 ? 0 : Math.floorMod(a, b);
                case DO_MIN: return Math.min(a, b);
                case DO_MAX: return Math.max(a, b);
                case DO_BELOW: return a < b ? 1 : 0;
                case DO_ABOVE: return a > b ? 1 : 0;
                case DO_SAME: return a == b ? 1 : 0;
                case DO_AND: return a & b;
                case DO_OR: return a | b;
                default: return 0;
            }
        }

        private static int limited(long value) {
            return (int) Math.max(-LIMIT, Math.min(LIMIT, value));
        }
    }

    /** All that ACTS change, but what is KEPT. */
    private static final class Tub {
        int hours;
        int dips;
        final int[] parcels = new int[LAYERS * KINDS];
        final int[] purse = new int[CHILDREN];
        final int[] had = new int[CHILDREN * KINDS];

        void begin(Fete fete) {
            hours = 0;
            dips = 0;
            for (int i = 0; i < parcels.length; i++) parcels[i] = fete.parcels[i];
            for (int i = 0; i < purse.length; i++) purse[i] = i < fete.children ? fete.purse : 0;
            for (int i = 0; i < had.length; i++) had[i] = 0;
        }

        void copy(Tub other) {
            hours = other.hours;
            dips = other.dips;
            for (int i = 0; i < parcels.length; i++) parcels[i] = other.parcels[i];
            for (int i = 0; i < purse.length; i++) purse[i] = other.purse[i];
            for (int i = 0; i < had.length; i++) had[i] = other.had[i];
        }

        int parcelsLeft() {
            return sumOf(parcels, 0, parcels.length);
        }

        int parcelsIn(int layer) {
            return sumOf(parcels, layer * KINDS, (layer + 1) * KINDS);
        }

        int leftOf(int kind) {
            int sum = 0;
            for (int i = kind; i < parcels.length; i += KINDS) sum += parcels[i];
            return sum;
        }

        int coins() {
            return sumOf(purse, 0, purse.length);
        }

        int parcelsHad() {
            return sumOf(had, 0, had.length);
        }

        int hadBy(int child) {
            return sumOf(had, child * KINDS, (child + 1) * KINDS);
        }

        int hadOf(int kind) {
            int sum = 0;
            for (int i = kind; i < had.length; i += KINDS) sum += had[i];
            return sum;
        }

        private static int sumOf(int[] numbers, int from, int to) {
            int sum = 0;
            for (int i = from; i < to; i++) sum += numbers[i];
            return sum;
        }
    }

    /** What is WITHIN REACH of one child, and what he takes of it by his RULE, in ways of touching. */
    private static final class Reach {
        final int[] counts = new int[KINDS];
        final int[] worths = new int[KINDS];
        final int[] keys = new int[KINDS];
        int total;
        int from;
        int to;
        private int touches;

        /** The layers lie in this order; from .. to - 1 are the places in it. */
        void look(Fete fete, Tub tub, int child, int[] order) {
            touches = fete.feels[child] + 1;
            from = 0;
            while (from < fete.layers && tub.parcelsIn(order[from]) == 0) from++;
            to = Math.min(fete.layers, from + fete.reach[child]);
            total = 0;
            for (int kind = 0; kind < KINDS; kind++) {
                counts[kind] = 0;
                for (int i = from; i < to; i++) counts[kind] += tub.parcels[order[i] * KINDS + kind];
                total += counts[kind];
                worths[kind] = kind < fete.kinds ? fete.worthTo(child, kind) : 0;
                keys[kind] = kind < fete.kinds ? fete.keyOf(child, kind) : 0;
            }
        }

        /** Where the n-th parcel lies, of layers that lie as they are told. */
        int spot(Tub tub, int n) {
            int ahead = n;
            for (int spot = from * KINDS; spot < to * KINDS; spot++) {
                if (ahead < tub.parcels[spot]) return spot;
                ahead -= tub.parcels[spot];
            }
            return from * KINDS;
        }

        long allWays() {
            return power(total, touches);
        }

        /**
         * By how many of all ways of touching he takes a KIND. Those by which the greatest key is this one's are
         * upTo^t - below^t; (upTo - below) parcels share them alike, by the first touched. The division is done by
         * its factors, as the long would not hold what is divided.
         */
        long ways(int kind) {
            int below = 0;
            int upTo = 0;
            for (int other = 0; other < KINDS; other++) {
                if (keys[other] < keys[kind]) below += counts[other];
                if (keys[other] <= keys[kind]) upTo += counts[other];
            }
            long each = 0;
            for (int i = 0; i < touches; i++) each += power(upTo, touches - 1 - i) * power(below, i);
            return each * counts[kind];
        }

        long worthOfAllWays() {
            long worth = 0;
            for (int kind = 0; kind < KINDS; kind++) worth += ways(kind) * worths[kind];
            return worth;
        }

        /** The floor of what the parcels are worth on the mean, one by one. */
        int plainMean() {
            int worth = 0;
            for (int kind = 0; kind < KINDS; kind++) worth += counts[kind] * worths[kind];
            return total <= 0 ? 0 : worth / total;
        }

        private static long power(int base, int times) {
            long power = 1;
            for (int i = 0; i < times; i++) power *= base;
            return power;
        }
    }

    /** Finds LAID LAYERS: goes through all orders, the first by LAYERS first. */
    private static final class Arranger {
        private static final int ORDERS = 120;

        private final int[] order = new int[LAYERS];
        final int[] bestOrder = new int[LAYERS];
        int bestWorth;

        void arrange(Fete fete, Tub tub, Reach reach, int child) {
            bestWorth = NONE;
            for (int i = 0; i < LAYERS; i++) order[i] = i;
            for (int n = 0; n < ORDERS; n++) {
                reach.look(fete, tub, child, order);
                int worth = thousandths(reach.worthOfAllWays(), reach.allWays());
                if (worth > bestWorth) {
                    bestWorth = worth;
                    for (int i = 0; i < LAYERS; i++) bestOrder[i] = order[i];
                }
                if (!stepOn(fete.layers)) return;
            }
        }

        /** Makes it the next order of the first n numbers; false behind the last one. */
        private boolean stepOn(int n) {
            int rise = NONE;
            for (int i = 0; i + 1 < n; i++) {
                if (order[i] < order[i + 1]) rise = i;
            }
            if (rise == NONE) return false;
            int above = rise + 1;
            for (int i = rise + 1; i < n; i++) {
                if (order[i] > order[rise]) above = i;
            }
            exchange(rise, above);
            for (int i = rise + 1, j = n - 1; i < j; i++, j--) exchange(i, j);
            return true;
        }

        private void exchange(int i, int j) {
            int one = order[i];
            order[i] = order[j];
            order[j] = one;
        }
    }

    /** The acts that can be undone, and the dips that are KEPT. */
    private static final class History {
        /** So many that the last 60 are still there when all acts that can be are undone. */
        private static final int LOG = TOLD_MOST + UNDO_MOST * ROUNDS_MOST * CHILDREN;

        private final Tub[] before = new Tub[UNDO_MOST];
        private final int[] loggedBefore = new int[UNDO_MOST];
        private final int[] log = new int[LOG];
        private int next;
        private int logged;
        int undoable;

        History() {
            for (int i = 0; i < UNDO_MOST; i++) before[i] = new Tub();
        }

        void clear() {
            next = 0;
            logged = 0;
            undoable = 0;
        }

        void remember(Tub tub) {
            before[next].copy(tub);
            loggedBefore[next] = logged;
            next = (next + 1) % UNDO_MOST;
            if (undoable < UNDO_MOST) undoable++;
        }

        void restore(Tub tub) {
            next = (next + UNDO_MOST - 1) % UNDO_MOST;
            undoable--;
            tub.copy(before[next]);
            logged = loggedBefore[next];
        }

        void log(int child, int kind, int hour, int cost) {
            log[logged % LOG] = ((child * KINDS + kind) * 100 + hour) * 100 + cost;
            logged++;
        }

        int told() {
            return Math.min(TOLD_MOST, logged);
        }

        int tell(int k, int what) {
            if (k < 0 || k >= told()) return NONE;
            int entry = log[(logged - told() + k) % LOG];
            switch (what) {
                case 0: return entry / 10000 / KINDS;
                case 1: return entry / 10000 % KINDS;
                case 2: return entry / 100 % 100;
                case 3: return entry % 100;
                default: return NONE;
            }
        }
    }

    /** RINGS of swaps, gone through till nobody is left. */
    private static final class Rings {
        final int[] offers = new int[CHILDREN];
        final int[] points = new int[CHILDREN];
        /** 0 while he is left; NONE when he has no parcel. */
        final int[] rounds = new int[CHILDREN];

        void go(Fete fete, Tub tub) {
            for (int child = 0; child < fete.children; child++) {
                offers[child] = offerOf(fete, tub, child);
                rounds[child] = offers[child] == NONE ? NONE : 0;
            }
            for (int round = 1; round <= fete.children; round++) {
                for (int child = 0; child < fete.children; child++) {
                    if (rounds[child] == 0) points[child] = choiceOf(fete, child);
                }
                for (int child = 0; child < fete.children; child++) {
                    if (rounds[child] == 0 && goesRound(child, fete.children)) rounds[child] = round;
                }
            }
        }

        private static int offerOf(Fete fete, Tub tub, int child) {
            int least = NONE;
            for (int kind = 0; kind < fete.kinds; kind++) {
                if (tub.had[child * KINDS + kind] == 0) continue;
                if (least == NONE || fete.worthTo(child, kind) < fete.worthTo(child, least)) least = kind;
            }
            return least;
        }

        private int choiceOf(Fete fete, int child) {
            int best = child;
            for (int other = 0; other < fete.children; other++) {
                if (rounds[other] != 0) continue;
                if (fete.worthTo(child, offers[other]) > fete.worthTo(child, offers[best])) best = other;
            }
            return best;
        }

        private boolean goesRound(int child, int most) {
            int at = points[child];
            for (int n = 0; n < most && at != child; n++) at = points[at];
            return at == child;
        }
    }

    /** AN IMAGE, written and read. */
    private static final class Picture {
        private static final int MOST = 3 + LAYERS * KINDS + CHILDREN * (2 + 2 * KINDS) + 1;

        final int[] bytes = new int[MOST];
        int length;

        void write(Fete fete, Tub tub) {
            length = 0;
            add(tub.hours);
            addTwo(tub.dips);
            for (int layer = 0; layer < fete.layers; layer++) {
                for (int kind = 0; kind < fete.kinds; kind++) add(tub.parcels[layer * KINDS + kind]);
            }
            for (int child = 0; child < fete.children; child++) {
                addTwo(tub.purse[child]);
                for (int kind = 0; kind < fete.kinds; kind++) addTwo(tub.had[child * KINDS + kind]);
            }
            add(checkOf(bytes, length));
        }

        private void add(int value) {
            if (length < MOST) bytes[length++] = value & 255;
        }

        private void addTwo(int value) {
            add(value >> 8);
            add(value);
        }

        private static int checkOf(int[] bytes, int n) {
            int check = 109;
            for (int i = 0; i < n && i < bytes.length; i++) check = (5 * check + bytes[i]) % 251;
            return check;
        }

        /** Whether the tape is AN IMAGE of this fete; if so the tub is as it tells. */
        static boolean read(Tape tape, Fete fete, Tub into) {
            int last = 3 + fete.layers * fete.kinds + fete.children * (2 + 2 * fete.kinds);
            if (tape.length != last + 1 || tape.bytes[last] != checkOf(tape.bytes, last)) return false;
            into.begin(fete);
            into.hours = tape.bytes[0];
            into.dips = twoAt(tape, 1);
            if (into.hours > HOUR_MOST || into.dips > DIPS_MOST) return false;
            return readLayers(tape, fete, into) && readChildren(tape, fete, into);
        }

        private static boolean readLayers(Tape tape, Fete fete, Tub into) {
            int at = 3;
            for (int layer = 0; layer < fete.layers; layer++) {
                for (int kind = 0; kind < fete.kinds; kind++) {
                    int parcels = tape.bytes[at++];
                    if (parcels > LAID_MOST) return false;
                    into.parcels[layer * KINDS + kind] = parcels;
                }
            }
            return true;
        }

        private static boolean readChildren(Tape tape, Fete fete, Tub into) {
            int at = 3 + fete.layers * fete.kinds;
            for (int child = 0; child < fete.children; child++) {
                into.purse[child] = twoAt(tape, at);
                if (into.purse[child] > PURSE_MOST) return false;
                at += 2;
                for (int kind = 0; kind < fete.kinds; kind++) {
                    int had = twoAt(tape, at);
                    if (had > HAD_MOST) return false;
                    into.had[child * KINDS + kind] = had;
                    at += 2;
                }
            }
            return true;
        }

        private static int twoAt(Tape tape, int at) {
            return at + 1 < tape.length ? tape.bytes[at] * 256 + tape.bytes[at + 1] : 0;
        }
    }
}
