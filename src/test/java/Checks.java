import java.nio.charset.StandardCharsets;
import java.util.Arrays;

/** What all tests use: due answers, due exceptions, and texts put on the tape. */
final class Checks {
    private static int right = 0;
    private static int wrong = 0;
    private static String where = "";

    private Checks() {
    }

    interface Call {
        long answer();
    }

    interface Truth {
        boolean answer();
    }

    static void part(String name) {
        where = name;
    }

    static void due(String call, long want, Call made) {
        String got;
        try {
            got = Long.toString(made.answer());
        } catch (RuntimeException e) {
            got = "throws." + e.getClass().getSimpleName();
        }
        judge(call, Long.toString(want), got);
    }

    static void dueTruth(String call, boolean want, Truth made) {
        due(call, want ? 1 : 0, () -> made.answer() ? 1 : 0);
    }

    /** The exception must be of this very class: a class below it is the machine's own. */
    static void dueThrow(String call, Class<? extends RuntimeException> want, Call made) {
        String got;
        try {
            got = Long.toString(made.answer());
        } catch (RuntimeException e) {
            got = "throws." + e.getClass().getSimpleName();
        }
        judge(call, "throws." + want.getSimpleName(), got);
    }

    static void dueThrowOfTruth(String call, Class<? extends RuntimeException> want, Truth made) {
        dueThrow(call, want, () -> made.answer() ? 1 : 0);
    }

    static void judge(String call, String want, String got) {
        if (want.equals(got)) {
            right++;
        } else {
            wrong++;
            System.out.println(where + ": " + call + " answered " + got + ", due is " + want);
        }
    }

    /** Ends the test: exit code 1 if one answer was not as due. */
    static void end() {
        System.out.println(right + " answers as due, " + wrong + " not");
        if (wrong != 0 || right == 0) {
            System.exit(1);
        }
    }

    static byte[] bytesOf(String text) {
        return text.getBytes(StandardCharsets.ISO_8859_1);
    }

    /** The text's bytes as numbers for feed(), five a call, zeros behind. */
    static int[] numbersOf(byte[] bytes) {
        byte[] whole = Arrays.copyOf(bytes, (bytes.length + 19) / 20 * 20);
        int[] numbers = new int[whole.length / 4];
        for (int i = 0; i < whole.length; i++) {
            numbers[i / 4] = numbers[i / 4] << 8 | whole[i] & 255;
        }
        return numbers;
    }

    static void put(PacketLaw x, String text) {
        int[] n = numbersOf(bytesOf(text));
        for (int i = 0; i < n.length; i += 5) {
            x.feed(n[i], n[i + 1], n[i + 2], n[i + 3], n[i + 4]);
        }
    }

    static String times(String text, int many) {
        return text.repeat(many);
    }

    static int law(PacketLaw x, int year, String text) {
        put(x, text);
        return x.law(year, text.length());
    }

    static long tried(PacketLaw x, int maker, int year, String text) {
        put(x, text);
        return x.tried(maker, year, text.length());
    }
}
