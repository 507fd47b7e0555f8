import java.lang.reflect.Method;
import java.lang.reflect.Modifier;
import java.util.ArrayList;
import java.util.Arrays;
import java.util.Comparator;
import java.util.List;
import java.util.Random;

/** Every call with numbers just inside and just outside of each range, and far outside: as the plain model answers. */
public final class RangeTest {
    private static final int[] EDGES = {Integer.MIN_VALUE, Integer.MIN_VALUE + 1, -256, -2, -1, 0, 1, 2, 3, 4, 5, 6, 7, 8, 9, 10,
        11, 12, 15, 16, 29, 30, 31, 32, 33, 63, 64, 127, 128, 199, 200, 201, 255, 256, 257, 999, 1000, 1001, 1600, 99999, 100000,
        Integer.MAX_VALUE - 1, Integer.MAX_VALUE};
    private static final int[] FEW = {Integer.MIN_VALUE, -2, -1, 0, 1, 2, 3, 4, 7, 8, 9, 16, 256, Integer.MAX_VALUE};
    private static final int BY_CHANCE = 1500;
    private static final String[] SCHOOLS = {
        "",
        "marks 1;boy a has 0;mirror a lie 0;",
        "boy a has 1 5;mirror a lie 9 sees 2 to 4;mirror b lie first dust 4;",
        "marks 3;boy a has 0;boy b has 0 1 2;boy c;boy d has 1;mirror p lie first;mirror q lie many;mirror r lie 1 sees 0 to 1;"
            + "mirror s lie day + 2 price 5 dust 4;draw 417;",
        "marks 2;boy a;mirror a lie 0;mirror b lie 1;mirror c lie many;mirror d lie first;mirror e lie 9;mirror f lie day;"
            + "mirror g lie dusty dust 3;mirror h lie 0 dust 9;mirror i lie 9 sees 1 to 1 price 0;draw 999;",
    };

    private final MirrorLies real = new MirrorLies();
    private final PlainModel plain = new PlainModel();
    private int calls;

    private void ask(Method method, int[] numbers) throws Exception {
        Object[] args = Arrays.stream(numbers).boxed().toArray();
        Object got = method.invoke(real, args);
        Object want = PlainModel.class.getMethod(method.getName(), method.getParameterTypes()).invoke(plain, args);
        calls++;
        if (!got.equals(want)) {
            throw new AssertionError(method.getName() + Arrays.toString(numbers) + " answered " + got + ", due is " + want);
        }
    }

    private void everyRow(Method method, int[] numbers, int at, int[] edges) throws Exception {
        if (at == numbers.length) {
            ask(method, numbers);
            return;
        }
        for (int edge : edges) {
            numbers[at] = edge;
            everyRow(method, numbers, at + 1, edges);
        }
    }

    private void sweep(Method method, Random chance) throws Exception {
        int[] numbers = new int[method.getParameterCount()];
        if (numbers.length <= 3) {
            everyRow(method, numbers, 0, numbers.length <= 2 ? EDGES : FEW);
            return;
        }
        for (int i = 0; i < BY_CHANCE; i++) {
            Arrays.setAll(numbers, at -> FEW[chance.nextInt(FEW.length)]);
            ask(method, numbers);
        }
    }

    private void sweepAll(Random chance) throws Exception {
        for (Method method : methods()) {
            // The school must last: ModelTest has it read anew.
            if (!method.getName().equals("school")) {
                sweep(method, chance);
            }
        }
    }

    private static List<Method> methods() {
        List<Method> methods = new ArrayList<>();
        for (Method method : MirrorLies.class.getDeclaredMethods()) {
            if (Modifier.isPublic(method.getModifiers())) {
                methods.add(method);
            }
        }
        methods.sort(Comparator.comparing(Method::getName));
        return methods;
    }

    private void open(String text) {
        int[] n = Checks.numbers(text);
        for (int i = 0; i < n.length; i += 5) {
            real.feed(n[i], n[i + 1], n[i + 2], n[i + 3], n[i + 4]);
            plain.feed(n[i], n[i + 1], n[i + 2], n[i + 3], n[i + 4]);
        }
        real.end(text.length());
        plain.end(text.length());
        real.school();
        plain.school();
    }

    public static void main(String[] args) throws Exception {
        int calls = 0;
        for (String school : SCHOOLS) {
            RangeTest test = new RangeTest();
            Random chance = new Random(school.length());
            test.open(school);
            // Twice: the second time there are ACTS, LOOKS and full BOXES from the beginning.
            test.sweepAll(chance);
            test.sweepAll(chance);
            calls += test.calls;
        }
        System.out.println("RangeTest: " + calls + " calls as the plain model has them");
    }
}
