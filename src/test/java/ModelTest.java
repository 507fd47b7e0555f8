import java.lang.reflect.Method;
import java.util.ArrayList;
import java.util.Arrays;
import java.util.List;
import java.util.Random;

/** Long runs of calls by chance, on the class and on the plain model: both must always answer alike. */
public final class ModelTest {
    // Of each call what its arguments are: see argument().
    private static final String[] CALLS = {
        "fault w", "face b", "mirror m4", "lie mf", "shows mf", "mark bk", "mark bk", "breathe m", "wipe m",
        "crack my", "night", "night", "undo", "undo", "redo", "hall bhhhh", "round bmw", "facing bmmw", "sights b",
        "blind N", "moled bw", "mend mb", "hang b", "dream bf", "hangs b4", "trues", "honest b", "alike", "apart mm",
        "fixed mw", "lied mk", "from mfw", "twins bb", "crossed mm", "undoes m", "longest mw", "dull", "changed x",
        "whose mf", "lies 4", "look mi", "look mi", "look mf", "untell l", "later T", "like wt", "who t", "spread wt",
        "sure kt", "odds kwt", "ask wt", "mean mwt", "course wt", "course wt", "tell wt", "glass wt", "image x",
        "back x", "about A", "end E"
    };
    private static final String[] WORDS = {"marks", "boy", "has", "mirror", "lie", "sees", "to", "price", "dust",
        "draw", "or", "and", "not", "day", "many", "first", "dusty", "ann", "bob", "abcdefgh", "abcdefghi", "0", "7",
        "12345", "1234", "9a", ";", "(", ")", "<", ">", "=", "+", "-", "*", "/", "%", " ", "\n", "\t", "A", "_",
        "\u00e9", "", "ax", "a", "1 1", "2 3 2", " has 0", "boy ax;", "boy zz;", "mirror a lie 1;", "mirror zz lie 0;",
        "draw 1;", "draw 1000;", "marks 3;", "sees 1 to 0", "sees 0 to 9", "price 100", "dust 10",
        "lie ((((((((1))))))))", "lie (((((((1)))))))", "lie not not not not not not not 1",
        "lie not not not not not not not not 1", "lie not(not(not(not 1 < (2))))", "lie 1 < 2 < 3",
        "lie 1" + "+1".repeat(28), "lie 1" + "*2".repeat(29), "lie 1" + "-1".repeat(30), "lie (1" + "+1".repeat(29)};

    private final Random chance;
    private final MirrorLies real = new MirrorLies();
    private final PlainModel plain = new PlainModel();
    private final List<String> log = new ArrayList<>();
    private int unknown;

    private ModelTest(long seed) {
        chance = new Random(seed);
    }

    private int upTo(int n) {
        return chance.nextInt(n);
    }

    private String formula(int depth) {
        int kind = upTo(depth > 2 ? 6 : 16);
        switch (kind) {
            case 0: return "first";
            case 1: return "many";
            case 2: return "day";
            case 3: return "dusty";
            case 4: case 5: return "" + upTo(upTo(4) == 0 ? 9999 : 9);
            case 6: return formula(depth + 1) + " + " + formula(depth + 1);
            case 7: return formula(depth + 1) + "-" + formula(depth + 1);
            case 8: return formula(depth + 1) + " * " + formula(depth + 1);
            case 9: return formula(depth + 1) + "/" + formula(depth + 1);
            case 10: return formula(depth + 1) + " % " + (upTo(3) == 0 ? formula(depth + 1) : "" + (1 + upTo(8)));
            case 11: return "(" + formula(depth + 1) + ")";
            case 12: return "(" + formula(depth + 1) + "<>=".charAt(upTo(3)) + formula(depth + 1) + ")";
            case 13: return "(not " + formula(depth + 1) + ")";
            case 14: return "(" + formula(depth + 1) + " and " + formula(depth + 1) + ")";
            default: return "(" + formula(depth + 1) + " or " + formula(depth + 1) + ")";
        }
    }

    private String text() {
        StringBuilder s = new StringBuilder();
        int width = 6;
        if (upTo(4) > 0) {
            width = 1 + upTo(8);
            s.append("marks ").append(width).append(';');
        }
        int boys = upTo(5);
        for (int i = 0; i < boys; i++) {
            s.append("boy ").append((char) ('a' + i)).append("x ");
            String has = "has";
            for (int mark = 0; mark < width; mark++) {
                if (upTo(2) == 0) {
                    s.append(has).append(' ').append(mark);
                    has = "";
                }
            }
            s.append(";\n");
        }
        int mirrors = upTo(10);
        for (int i = 0; i < mirrors; i++) {
            s.append("mirror ").append((char) ('a' + i)).append(" lie ");
            String f = upTo(3) == 0 ? "(" + formula(0) + ") % " + (1 + upTo(width)) : formula(0);
            s.append(upTo(3) == 0 ? (upTo(2) == 0 ? "first" : "many - 1") : f);
            if (upTo(3) == 0) {
                int least = upTo(width);
                s.append(" sees ").append(least).append(" to ").append(least + upTo(width - least));
            }
            if (upTo(2) == 0) {
                s.append(" price ").append(upTo(upTo(2) == 0 ? 4 : 100));
            }
            if (upTo(4) == 0) {
                s.append(" dust ").append(upTo(10));
            }
            s.append(';');
        }
        if (upTo(2) == 0) {
            s.append("draw ").append(upTo(1000)).append(';');
        }
        return s.length() > 1580 ? "" : s.toString();
    }

    /** The place behind the next blank or end of a line. */
    private static int edge(StringBuilder s, int at) {
        int i = at;
        while (i < s.length() && i > 0 && " ;\n".indexOf(s.charAt(i - 1)) < 0) {
            i++;
        }
        return i;
    }

    private String spoilt(String text) {
        StringBuilder s = new StringBuilder(text);
        for (int i = upTo(3); i >= 0; i--) {
            int at = upTo(s.length() + 1);
            int end = Math.min(s.length(), at + (upTo(2) == 0 ? 0 : upTo(8)));
            if (upTo(3) > 0) {
                at = edge(s, at);
                end = upTo(2) == 0 ? at : edge(s, Math.min(s.length(), at + 1));
            }
            s.replace(at, end, WORDS[upTo(WORDS.length)]);
        }
        return s.length() > 1580 ? s.substring(0, 1580) : s.toString();
    }

    private int small(int count) {
        return upTo(12) == 0 ? upTo(2) == 0 ? -1 - upTo(2) : count + upTo(2) : upTo(Math.max(1, count));
    }

    private int argument(char sort) {
        int width = plain.about(2);
        switch (sort) {
            case 'b': return small(plain.about(1));
            case 'm': return small(plain.about(0));
            case 'h': return upTo(5) == 0 ? -1 : small(plain.about(0));
            case 'w': return small(2);
            case '4': return small(5);
            case 'f': case 'i': return small(1 << width);
            case 'k': return small(width);
            case 'y': return small(8);
            case 'N': return upTo(4) == 0 ? small(201) : small(20);
            case 'x': return small(3);
            case 'l': return small(Math.max(1, plain.about(7)));
            case 'T': return upTo(3) == 0 ? small(1001) : small(3);
            case 't': return upTo(2) == 0 ? plain.about(8) : upTo(plain.about(8) + 2) - 1;
            case 'A': return small(12);
            case 'E': return upTo(2) == 0 ? plain.about(9) : small(plain.about(9));
            default: throw new IllegalStateException("no sort " + sort);
        }
    }

    private void both(String name, Class<?>[] types, Object[] args) throws Exception {
        Object got = MirrorLies.class.getMethod(name, types).invoke(real, args);
        Object want = PlainModel.class.getMethod(name, types).invoke(plain, args);
        log.add(name + Arrays.toString(args) + " = " + got);
        if (!got.equals(want)) {
            log.forEach(System.out::println);
            throw new AssertionError("due is " + want);
        }
    }

    private void call(String call) throws Exception {
        String[] parts = call.split(" ");
        String sorts = parts.length > 1 ? parts[1] : "";
        Object[] args = new Object[sorts.length()];
        for (int i = 0; i < args.length; i++) {
            args[i] = argument(sorts.charAt(i));
        }
        if (sorts.endsWith("mi")) {
            // What the unknown one shows, so that some faces are left.
            int mirror = (Integer) args[0];
            int shown = plain.shows(mirror, unknown);
            args[1] = Math.max(0, shown);
        }
        Class<?>[] types = new Class<?>[args.length];
        Arrays.fill(types, int.class);
        both(parts[0], types, args);
    }

    private void newSchool() throws Exception {
        String text = upTo(3) == 0 ? spoilt(text()) : text();
        log.add("text: " + text);
        both("end", new Class<?>[] {int.class}, new Object[] {0});
        int[] n = Checks.numbers(text);
        Class<?>[] five = {int.class, int.class, int.class, int.class, int.class};
        for (int i = 0; i < n.length; i += 5) {
            both("feed", five, new Object[] {n[i], n[i + 1], n[i + 2], n[i + 3], n[i + 4]});
        }
        both("end", new Class<?>[] {int.class}, new Object[] {text.length()});
        both("school", new Class<?>[0], new Object[0]);
        for (int what = 0; what < 2; what++) {
            both("fault", new Class<?>[] {int.class}, new Object[] {what});
        }
        allAbout();
        unknown = upTo(1 << plain.about(2));
    }

    private void allAbout() throws Exception {
        for (int what = -1; what <= 12; what++) {
            both("about", new Class<?>[] {int.class}, new Object[] {what});
        }
        for (int mirror = 0; mirror < plain.about(0); mirror++) {
            for (int what = 0; what < 4; what++) {
                both("mirror", new Class<?>[] {int.class, int.class}, new Object[] {mirror, what});
            }
        }
        for (int boy = 0; boy < plain.about(1); boy++) {
            both("face", new Class<?>[] {int.class}, new Object[] {boy});
        }
    }

    private void run(int calls) throws Exception {
        int schools = 1 + upTo(2);
        for (int s = 0; s < schools; s++) {
            newSchool();
            // Acts undone many times over only if acts outnumber the rest now and then.
            boolean busy = upTo(4) == 0;
            for (int i = 0; i < calls; i++) {
                call(busy && upTo(3) > 0 ? CALLS[5 + upTo(10)] : CALLS[upTo(CALLS.length)]);
            }
            allAbout();
        }
    }

    private static void faultsOnly(int from, int to) throws Exception {
        for (int seed = from; seed < to; seed++) {
            ModelTest test = new ModelTest(seed);
            for (int i = 0; i < 8; i++) {
                test.newSchool();
            }
        }
    }

    private static void checkFace() {
        for (Method method : MirrorLies.class.getDeclaredMethods()) {
            if (java.lang.reflect.Modifier.isPublic(method.getModifiers())) {
                boolean known = method.getName().equals("feed") || method.getName().equals("school")
                    || Arrays.stream(CALLS).anyMatch(call -> call.split(" ")[0].equals(method.getName()));
                if (!known) {
                    throw new AssertionError("never called: " + method.getName());
                }
            }
        }
    }

    public static void main(String[] args) throws Exception {
        int runs = args.length > 0 ? Integer.parseInt(args[0]) : 400;
        int first = args.length > 1 ? Integer.parseInt(args[1]) : 0;
        checkFace();
        faultsOnly(first, first + runs * 5);
        for (int seed = first; seed < first + runs; seed++) {
            new ModelTest(seed).run(200);
        }
        System.out.println("ModelTest: " + runs + " runs as the plain model has them");
    }
}
