import java.nio.charset.StandardCharsets;

/** What the tests share: checks that are counted, and a bench that takes texts. */
final class Checks {
    private static int made = 0;
    private static int wrong = 0;

    private Checks() {
    }

    interface Call {
        Object answer();
    }

    /** What a call answers, or the simple name of what it throws behind "throws.". */
    static Object outcome(Call call) {
        try {
            return call.answer();
        } catch (RuntimeException e) {
            return "throws." + e.getClass().getSimpleName();
        }
    }

    static void due(String call, Object want, Object got) {
        made++;
        if (!want.equals(got)) {
            wrong++;
            System.out.println(call + " answered " + got + ", due is " + want);
        }
    }

    static void due(String call, Object want, Call got) {
        due(call, want, outcome(got));
    }

    /** Ends the test: exit code 1 if something was wrong. */
    static void close(String test) {
        System.out.println(test + ": " + made + " checks, " + wrong + " wrong");
        if (wrong > 0) {
            System.exit(1);
        }
    }

    static void load(UnifyBench bench, String text) {
        byte[] bytes = text.getBytes(StandardCharsets.ISO_8859_1);
        // What is over 4080 bytes can't come in whole feeds of 20.
        if (bytes.length > 4080) {
            throw new IllegalArgumentException("too long for the tape");
        }
        bench.end(0);
        for (int i = 0; i < bytes.length; i += 20) {
            int[] five = new int[5];
            for (int k = 0; k < 20; k++) {
                int b = i + k < bytes.length ? bytes[i + k] & 255 : 0;
                five[k / 4] = five[k / 4] << 8 | b;
            }
            bench.feed(five[0], five[1], five[2], five[3], five[4]);
        }
        bench.end(bytes.length);
    }

    static Object read(UnifyBench bench, int r, String text) {
        load(bench, text);
        return outcome(() -> bench.read(r));
    }

    /** The whole result, taken word by word. */
    static String result(UnifyBench bench) {
        int length = bench.count(1);
        StringBuilder text = new StringBuilder();
        for (int i = 0; i < length; i += 8) {
            long word = bench.word(i);
            for (int k = 0; k < 8; k++) {
                int b = (int) (word >>> 56 - 8 * k) & 255;
                if (i + k < length) {
                    text.append((char) b);
                } else {
                    due("byte behind the end of the result", 0, b);
                }
            }
        }
        return text.toString();
    }

    static String printed(UnifyBench bench, int r) {
        Object length = outcome(() -> bench.print(r));
        if (!(length instanceof Integer)) {
            return length.toString();
        }
        String text = result(bench);
        due("length of the result", text.length(), length);
        return text;
    }

    static String repeated(String text, int times) {
        return text.repeat(times);
    }
}
