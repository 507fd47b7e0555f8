import java.nio.charset.StandardCharsets;
import java.util.Arrays;

/** What the tests share: answers compared and counted, texts fed. */
final class Checks {
    private int asked;
    private int wrong;

    void due(String call, long got, long want) {
        asked++;
        if (got != want) {
            wrong++;
            System.out.println(call + " answered " + got + ", due is " + want);
        }
    }

    void due(String call, boolean got, boolean want) {
        due(call, got ? 1 : 0, want ? 1 : 0);
    }

    void end(String name) {
        System.out.println(name + ": " + asked + " answers, " + wrong + " not as due");
        if (wrong != 0) {
            System.exit(1);
        }
    }

    /** The numbers that feed() takes for a text, five for twenty bytes, blanks behind its end. */
    static int[] numbers(String text) {
        byte[] bytes = text.getBytes(StandardCharsets.ISO_8859_1);
        int groups = (bytes.length + 19) / 20;
        byte[] whole = Arrays.copyOf(bytes, groups * 20);
        Arrays.fill(whole, bytes.length, whole.length, (byte) 32);
        int[] numbers = new int[groups * 5];
        for (int i = 0; i < whole.length; i++) {
            numbers[i / 4] = numbers[i / 4] << 8 | whole[i] & 255;
        }
        return numbers;
    }

    static void feed(MirrorLies x, String text) {
        int before = x.about(9);
        int[] n = numbers(text);
        for (int i = 0; i < n.length; i += 5) {
            x.feed(n[i], n[i + 1], n[i + 2], n[i + 3], n[i + 4]);
        }
        x.end(before + text.length());
    }

    static MirrorLies open(String text) {
        MirrorLies x = new MirrorLies();
        feed(x, text);
        if (x.school() == MirrorLies.NONE) {
            throw new IllegalStateException(text + ": fault " + x.fault(0) + " at " + x.fault(1));
        }
        return x;
    }
}
