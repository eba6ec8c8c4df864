import java.lang.reflect.Method;
import java.util.ArrayList;
import java.util.Arrays;
import java.util.List;
import java.util.Random;

/** All promises: the same random calls on a BranTub and on the Model, with the same answers (fixed seeds). */
public final class ModelRunsTest {
    private static final String[] NAMES = {"feed", "end", "fete", "fault", "has", "letter", "kind", "layer", "child",
        "likes", "likely", "takes", "mean", "comes", "price", "laid", "dip", "hour", "put", "back", "swap",
        "afternoon", "undo", "seed", "kept", "row", "leaves", "ring", "image", "octet", "on", "status"};
    private static final String[] ACTS = {"dip", "dip", "dip", "hour", "put", "back", "back", "swap", "swap", "swap",
        "afternoon", "undo", "undo", "seed"};
    private static final Due due = new Due();

    private final Random random;
    private final BranTub tub = new BranTub();
    private final Model model = new Model();
    private final String title;
    private int calls;

    private ModelRunsTest(int run) {
        random = new Random(run);
        title = "run " + run;
    }

    public static void main(String[] args) throws Exception {
        for (int run = 0; run < 400; run++) new ModelRunsTest(run).runOfActs();
        for (int run = 0; run < 100; run++) new ModelRunsTest(1000 + run).runOfImages();
        for (int run = 0; run < 400; run++) new ModelRunsTest(2000 + run).runOfFaults();
        due.close();
    }

    private long call(String name, int... args) throws Exception {
        Class<?>[] types = new Class<?>[args.length];
        Arrays.fill(types, int.class);
        Object[] boxed = Arrays.stream(args).boxed().toArray();
        Method real = BranTub.class.getMethod(name, types);
        Method meant = Model.class.getMethod(name, types);
        long want = number(meant.invoke(model, boxed));
        long got = number(real.invoke(tub, boxed));
        calls++;
        due.is(title + ", call " + calls + ": " + name + Arrays.toString(args), want, got);
        return want;
    }

    private static long number(Object answer) {
        return answer instanceof Boolean b ? b ? 1 : 0 : (Integer) answer;
    }

    private int below(int n) {
        return random.nextInt(n);
    }

    /** Mostly a number that there is, sometimes one beside it or far off. */
    private int about(int n) {
        int which = below(40);
        if (which == 0) return -1;
        if (which == 1) return n;
        if (which == 2) return random.nextInt();
        return below(Math.max(1, n));
    }

    private void tape(int[] bytes) throws Exception {
        int at = 0;
        for (int from = 0; from < bytes.length; from += 20) {
            int[] five = new int[5];
            for (int i = 0; i < 20; i++) {
                five[i / 4] = five[i / 4] << 8 | (from + i < bytes.length ? bytes[from + i] & 255 : 7);
            }
            at = (int) call("feed", five);
        }
        if (bytes.length % 20 != 0) call("end", at - 20 + bytes.length % 20);
    }

    private long fete(String text) throws Exception {
        tape(text.chars().toArray());
        long told = call("fete");
        call("fault", 0);
        call("fault", 1);
        return told;
    }

    private void runOfActs() throws Exception {
        ModelTexts texts = new ModelTexts(random);
        fete(texts.valid());
        for (int n = 0; n < 100; n++) {
            String name = below(5) < 3 ? ACTS[below(ACTS.length)] : NAMES[5 + below(NAMES.length - 5)];
            if (name.equals("row")) row();
            else if (name.equals("on")) images();
            else random(name);
            if (n % 20 == 19) askAll();
        }
        if (below(3) == 0) fete(texts.valid());
        askAll();
    }

    private void random(String name) throws Exception {
        int kinds = (int) call("has", 0);
        int layers = (int) call("has", 1);
        int children = (int) call("has", 2);
        switch (name) {
            case "letter" -> call(name, about(2), about(8), about(6));
            case "kind", "layer" -> call(name, about(name.equals("kind") ? kinds : layers), about(kinds));
            case "child", "ring" -> call(name, about(children), about(name.equals("child") ? 7 : 3));
            case "likes" -> call(name, about(children), about(kinds), about(3));
            case "likely", "takes", "back" -> call(name, about(children), about(kinds));
            case "comes" -> call(name, about(children), about(100));
            case "price", "status" -> call(name, about(6));
            case "mean", "dip" -> call(name, about(children));
            case "laid" -> call(name, about(children), about(layers + 1) - 1);
            case "put" -> call(name, about(layers), about(kinds), about(34));
            case "swap" -> call(name, about(children), about(kinds), about(children), about(kinds));
            case "afternoon" -> call(name, below(3) == 0 ? about(22) : 1 + below(3));
            case "seed" -> call(name, random.nextInt());
            case "kept" -> call(name, about(62), about(4));
            case "leaves" -> call(name, about(layers), about(kinds));
            case "octet" -> call(name, about(190));
            default -> call(name);
        }
    }

    private void row() throws Exception {
        int[] bytes = new int[below(8) == 0 ? below(45) : 2 * (1 + below(20))];
        for (int i = 0; i < bytes.length; i++) {
            int there = (int) call("has", i % 2 == 0 ? 2 : 0);
            bytes[i] = below(200) == 0 ? below(256) : below(Math.max(1, there));
        }
        tape(bytes);
        call("row");
        askLeaves();
    }

    private void askLeaves() throws Exception {
        for (int layer = -1; layer < 6; layer++) for (int kind = -1; kind < 9; kind++) call("leaves", layer, kind);
    }

    /** The image as it is, or with some bytes changed (with or without the right last byte). */
    private void images() throws Exception {
        int length = (int) call("image");
        int[] bytes = new int[length];
        for (int k = 0; k < length; k++) bytes[k] = (int) call("octet", k);
        call("octet", length);
        int kinds = (int) call("has", 0);
        int layers = (int) call("has", 1);
        int way = below(6);
        if (way > 0) {
            for (int i = 0; i < 1 + below(30) && length > 4; i++) {
                int at = below(length - 1);
                boolean high = at == 1 || at > 2 + kinds * layers && (at - 3 - kinds * layers) % 2 == 0;
                bytes[at] = high ? below(way == 1 ? 50 : 4) : below(way == 2 ? 256 : 100);
            }
            int c = 109;
            for (int i = 0; i < length - 1; i++) c = (5 * c + bytes[i]) % 251;
            bytes[length - 1] = way == 3 ? below(256) : c;
        }
        if (below(10) == 0) bytes = Arrays.copyOf(bytes, length + below(3) - 1);
        tape(bytes);
        call("on");
    }

    private void askAll() throws Exception {
        for (int what = -1; what <= 12; what++) call("has", what);
        for (int what = -1; what <= 6; what++) call("status", what);
        for (int kind = 0; kind < 8; kind++) for (int what = -1; what <= 4; what++) call("kind", kind, what);
        for (int layer = 0; layer < 5; layer++) for (int kind = -1; kind <= 8; kind++) call("layer", layer, kind);
        for (int child = 0; child <= call("has", 2); child++) {
            for (int what = -1; what <= 7; what++) call("child", child, what);
            for (int kind = -1; kind <= call("has", 0); kind++) {
                for (int what = -1; what <= 3; what++) call("likes", child, kind, what);
                call("likely", child, kind);
                call("takes", child, kind);
            }
            call("mean", child);
            for (int price : new int[] {-1, 0, 1, 5, 20, 50, 99, 100}) call("comes", child, price);
            for (int k = -2; k <= 5; k++) call("laid", child, k);
            for (int what = -1; what <= 3; what++) call("ring", child, what);
            for (int k = -1; k <= 6; k++) call("letter", 1, child, k);
            for (int k = -1; k <= 6; k++) call("letter", 0, child, k);
        }
        call("price", 0);
        call("price", 1);
        for (int k = -1; k <= 61; k++) for (int what = -1; what <= 4; what++) call("kept", k, what);
        askLeaves();
        long length = call("image");
        for (int k = -1; k <= length; k++) call("octet", k);
    }

    /** Full barrels, children who have much, hours and dips near their ends. */
    private void runOfImages() throws Exception {
        fete(new ModelTexts(random).valid());
        for (int n = 0; n < 12; n++) {
            images();
            for (int i = 0; i < 6; i++) random(ACTS[below(ACTS.length)]);
            for (int child = 0; child < call("has", 2); child++) {
                call("mean", child);
                call("laid", child, -1);
                for (int kind = 0; kind < call("has", 0); kind++) call("takes", child, kind);
            }
        }
        askAll();
    }

    private void runOfFaults() throws Exception {
        ModelTexts texts = new ModelTexts(random);
        List<String> all = new ArrayList<>();
        for (int n = 0; n < 30; n++) all.add(texts.spoilt());
        for (String text : all) fete(text);
        for (int what = 0; what <= 12; what++) call("has", what);
        call("status", 1);
    }
}
