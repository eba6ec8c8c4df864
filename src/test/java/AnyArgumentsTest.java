import java.lang.reflect.InvocationTargetException;
import java.lang.reflect.Method;
import java.lang.reflect.Modifier;
import java.util.ArrayList;
import java.util.List;
import java.util.Random;

/** No call throws, for any arguments, in any state; the face is the document's. */
public final class AnyArgumentsTest {
    private static final Due due = new Due();
    private static final String FACE = "feed5 end1 fete0 fault1 has1 letter3 kind2 layer2 child2 likes3 likely2 takes2 mean1 "
            + "comes2 price1 laid2 dip1 hour0 put3 back2 swap4 afternoon1 undo0 seed1 kept2 row0 leaves2 ring2 image0 octet1 on0 status1";
    private static final String FLAT = "end back swap undo seed on";
    private static final int[] ENDS = {Integer.MIN_VALUE, Integer.MIN_VALUE + 1, -65537, -256, -2, -1, 0, 1, 2, 5, 7, 8, 9, 20, 21,
        30, 31, 60, 99, 100, 256, 1600, 65536, 268435456, 536870912, 1073741824, Integer.MAX_VALUE - 1, Integer.MAX_VALUE};

    public static void main(String[] args) throws Exception {
        List<Method> face = new ArrayList<>();
        for (String call : FACE.split(" ")) {
            String name = call.substring(0, call.length() - 1);
            Class<?>[] types = new Class<?>[call.charAt(call.length() - 1) - '0'];
            java.util.Arrays.fill(types, int.class);
            Method method = BranTub.class.getMethod(name, types);
            boolean flat = List.of(FLAT.split(" ")).contains(name);
            due.is(name + " answers", true, method.getReturnType() == (flat ? boolean.class : int.class));
            face.add(method);
        }
        int shown = 0;
        for (Method method : BranTub.class.getDeclaredMethods()) if (!Modifier.isPrivate(method.getModifiers())) shown++;
        due.is("no other member to be seen", face.size(), shown);
        due.is("one constructor", 1, BranTub.class.getConstructors().length);
        due.is("one constant", 1, BranTub.class.getFields().length);
        for (int run = 0; run < 300; run++) calls(face, new Random(run));
        due.close();
    }

    private static void calls(List<Method> face, Random random) throws Exception {
        BranTub tub = new BranTub();
        if (random.nextInt(5) > 0) Due.fete(tub, new ModelTexts(random).valid());
        for (int n = 0; n < 500; n++) {
            Method method = face.get(random.nextInt(face.size()));
            Object[] args = new Object[method.getParameterCount()];
            for (int i = 0; i < args.length; i++) {
                args[i] = random.nextInt(3) == 0 ? ENDS[random.nextInt(ENDS.length)] : random.nextInt(4);
            }
            boolean quiet = true;
            try {
                method.invoke(tub, args);
            } catch (InvocationTargetException thrown) {
                quiet = false;
                System.out.println(thrown.getCause());
            }
            due.is(method.getName() + java.util.Arrays.toString(args) + " answers at all", true, quiet);
        }
    }
}
