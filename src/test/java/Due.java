/** Counts answers that are not the ones due, and puts texts and bytes on an object's tape. */
final class Due {
    private int asked;
    private int wrong;

    void is(String what, long want, long got) {
        asked++;
        if (want == got) return;
        wrong++;
        if (wrong <= 40) System.out.println(what + " answered " + got + ", due is " + want);
    }

    void is(String what, boolean want, boolean got) {
        is(what, want ? 1 : 0, got ? 1 : 0);
    }

    /** Tells the sum of it, and ends with exit code 1 if an answer was wrong. */
    void close() {
        System.out.println(asked + " answers, " + wrong + " not as due");
        if (wrong != 0 || asked == 0) System.exit(1);
    }

    static void bytes(BranTub tub, int[] bytes) {
        int before = 0;
        for (int at = 0; at < bytes.length; at += 20) {
            int[] five = new int[5];
            for (int i = 0; i < 20; i++) {
                int b = at + i < bytes.length ? bytes[at + i] & 255 : 0;
                five[i / 4] = five[i / 4] << 8 | b;
            }
            int length = tub.feed(five[0], five[1], five[2], five[3], five[4]);
            if (at == 0) before = length - 20;
        }
        if (bytes.length % 20 != 0) tub.end(before + bytes.length);
    }

    static void text(BranTub tub, String text) {
        int[] bytes = new int[text.length()];
        for (int i = 0; i < bytes.length; i++) bytes[i] = text.charAt(i);
        bytes(tub, bytes);
    }

    static int fete(BranTub tub, String text) {
        text(tub, text);
        return tub.fete();
    }

    /** A new object of which the text is the fete. */
    static BranTub tub(String text) {
        BranTub tub = new BranTub();
        if (fete(tub, text) < 0) {
            throw new IllegalStateException("fault " + tub.fault(0) + " at " + tub.fault(1) + " of " + text);
        }
        return tub;
    }
}
