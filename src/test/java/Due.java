/** Counts answers that are not the ones due, and puts texts and bytes on an object's tape. */
final class Due {
    private int asked;
    private int wrong;
    private String sentence = "";

    void is(String what, long want, long got) {
        asked++;
        if (want == got) return;
        wrong++;
        if (wrong <= 40) System.out.println(sentence + what + " answered " + got + ", due is " + want);
    }

    void is(String what, boolean want, boolean got) {
        is(what, want ? 1 : 0, got ? 1 : 0);
    }

    /** The words of the document that the next answers are due by. */
    void says(String words) {
        sentence = "<" + words + "> ";
    }

    /** The words that were said last. */
    String sentence() {
        return sentence.substring(1, sentence.length() - 2);
    }

    /** A text of so many STATEMENTS, without a FAULT. */
    void fine(int statements, String text) {
        BranTub tub = new BranTub();
        is(text, statements, fete(tub, text));
        is(text + ": fault", 0, tub.fault(0));
        is(text + ": place", -1, tub.fault(1));
    }

    /** The FAULT lies at the mark ^, which is no part of the text. */
    void fault(int what, String marked) {
        int place = marked.indexOf('^');
        String text = marked.substring(0, place) + marked.substring(place + 1);
        BranTub tub = new BranTub();
        is(marked, -1, fete(tub, text));
        is(marked + ": fault", what, tub.fault(0));
        is(marked + ": place", place, tub.fault(1));
        is(marked + ": refused", 1, tub.status(1));
    }

    /** Tells the sum of it, and ends with exit code 1 if an answer was wrong. */
    void close() {
        System.out.println(asked + " answers, " + wrong + " not as due");
        if (wrong != 0 || asked == 0) System.exit(1);
    }

    static void bytes(BranTub tub, int[] bytes) {
        int before = 0;
        for (int at = 0; at < bytes.length; at += 20) {
            int[] five = new int[5];
            for (int i = 0; i < 20; i++) {
                int b = at + i < bytes.length ? bytes[at + i] & 255 : 0;
                five[i / 4] = five[i / 4] << 8 | b;
            }
            int length = tub.feed(five[0], five[1], five[2], five[3], five[4]);
            if (at == 0) before = length - 20;
        }
        if (bytes.length % 20 != 0) tub.end(before + bytes.length);
    }

    /** An image with its last byte as it must be. */
    static int[] sign(int[] image) {
        int c = 109;
        for (int i = 0; i < image.length - 1; i++) c = (5 * c + image[i]) % 251;
        image[image.length - 1] = c;
        return image;
    }

    /** Whether the bytes, and a last one as it must be, are an image of the tub's fete: it is on then. */
    static boolean on(BranTub tub, int... image) {
        bytes(tub, sign(java.util.Arrays.copyOf(image, image.length + 1)));
        return tub.on();
    }

    static int row(BranTub tub, int... bytes) {
        bytes(tub, bytes);
        return tub.row();
    }

    /** So many times one, in which # is a letter from a on. */
    static String many(int n, String one) {
        StringBuilder all = new StringBuilder();
        for (int i = 0; i < n; i++) all.append(one.replace('#', (char) ('a' + i)));
        return all.toString();
    }

    static void text(BranTub tub, String text) {
        int[] bytes = new int[text.length()];
        for (int i = 0; i < bytes.length; i++) bytes[i] = text.charAt(i);
        bytes(tub, bytes);
    }

    static int fete(BranTub tub, String text) {
        text(tub, text);
        return tub.fete();
    }

    /** A new object of which the text is the fete. */
    static BranTub tub(String text) {
        BranTub tub = new BranTub();
        if (fete(tub, text) < 0) {
            throw new IllegalStateException("fault " + tub.fault(0) + " at " + tub.fault(1) + " of " + text);
        }
        return tub;
    }
}
