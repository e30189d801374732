import java.lang.reflect.InvocationTargetException;
import java.lang.reflect.Method;
import java.lang.reflect.Modifier;
import java.util.Arrays;
import java.util.Comparator;
import java.util.List;
import java.util.Random;

/** All calls in random order (always the same one), with ordinary and extreme numbers: none may throw. */
public final class NeverThrowsTest {
    private static final int[] EXTREMES = {Integer.MIN_VALUE, Integer.MIN_VALUE + 1, -1000001, -65536, -1001, -256, -3, -2, -1, 10, 11,
        20, 21, 99, 199, 200, 255, 256, 400, 999, 1000, 1001, 65535, 65536, Integer.MAX_VALUE - 4, Integer.MAX_VALUE - 3, Integer.MAX_VALUE};

    private final Random r;
    private final BecauseOf x = new BecauseOf();
    private final List<Method> calls;
    private int thrown = 0;

    private NeverThrowsTest(int run, List<Method> calls) {
        r = new Random(run);
        this.calls = calls;
    }

    private int number() {
        int kind = r.nextInt(12);
        if (kind == 0) return r.nextInt();
        if (kind == 1) return EXTREMES[r.nextInt(EXTREMES.length)];
        return r.nextInt(kind < 8 ? 2 : 8);
    }

    private void call(Method m) throws IllegalAccessException {
        Object[] arguments = new Object[m.getParameterCount()];
        for (int i = 0; i < arguments.length; i++) {
            if (m.getParameterTypes()[i] == boolean.class) arguments[i] = r.nextBoolean();
            else arguments[i] = number();
        }
        try {
            m.invoke(x, arguments);
        } catch (InvocationTargetException e) {
            thrown++;
            System.out.println(m.getName() + Arrays.toString(arguments) + " threw " + e.getCause());
        }
    }

    /** A text of ordinary bytes, or of any. */
    private void text() {
        String text = r.nextBoolean() ? Texts.view(r) : Texts.test(r, 0);
        if (r.nextInt(3) == 0) text = Texts.bent(r, text);
        if (r.nextInt(20) == 0) text = r.ints(400, 0, 256).collect(StringBuilder::new, (s, c) -> s.append((char) c), StringBuilder::append).toString();
        x.end(0);
        Texts.put(x, text);
        if (r.nextBoolean()) x.view();
        else x.rule();
    }

    private void go() throws IllegalAccessException {
        int people = r.nextInt(3) == 0 ? r.nextInt(220) : r.nextInt(20);
        for (int i = 0; i < people; i++) {
            int k = x.asks(r.nextInt(2), r.nextInt(8), r.nextInt(3), r.nextInt(3) - 1);
            x.mark(k, r.nextInt(3), r.nextInt(10));
        }
        int letters = r.nextInt(3) == 0 ? r.nextInt(220) : r.nextInt(20);
        for (int i = 0; i < letters; i++) x.letter(r.nextInt(8), r.nextBoolean(), r.nextBoolean());
        for (int i = 0; i < 20; i++) {
            text();
            for (int j = 0; j < 20; j++) call(calls.get(r.nextInt(calls.size())));
        }
    }

    public static void main(String[] args) throws Exception {
        List<Method> calls = Arrays.stream(BecauseOf.class.getDeclaredMethods()).filter(m -> Modifier.isPublic(m.getModifiers()))
                .sorted(Comparator.comparing(Method::getName)).toList();
        int runs = 500;
        int thrown = 0;
        for (int run = 0; run < runs; run++) {
            NeverThrowsTest test = new NeverThrowsTest(run, calls);
            test.go();
            thrown += test.thrown;
        }
        System.out.println(runs + " runs of " + calls.size() + " kinds of calls, " + thrown + " threw");
        if (thrown > 0) System.exit(1);
    }
}
