import java.nio.ByteBuffer;
import java.nio.IntBuffer;
import java.nio.charset.StandardCharsets;
import java.util.Arrays;

/** What the tests share: checks that are counted, and a bench that takes texts. */
final class Checks {
    private static int made = 0;
    private static int wrong = 0;
    private static String sentence = "";

    private Checks() {
    }

    interface Call {
        Object answer();
    }

    /** What a call answers, or the simple name of what it throws behind "throws.". */
    static Object outcome(Call call) {
        try {
            return call.answer();
        } catch (RuntimeException e) {
            return "throws." + e.getClass().getSimpleName();
        }
    }

    static void due(String call, Object want, Object got) {
        made++;
        if (!want.equals(got)) {
            wrong++;
            System.out.println(sentence + call + " answered " + got + ", due is " + want);
        }
    }

    static void due(String call, Object want, Call got) {
        due(call, want, outcome(got));
    }

    /** Names the sentence of the document that the next checks are for. */
    static void sentence(String words) {
        sentence = "\"" + words + "\": ";
    }

    /** Ends the test: exit code 1 if something was wrong. */
    static void close(String test) {
        System.out.println(test + ": " + made + " checks, " + wrong + " wrong");
        if (wrong > 0) {
            System.exit(1);
        }
    }

    /** Puts the text on the tape. The odd bytes come first, so that one of 4096 fits, too. */
    static void load(UnifyBench bench, String text) {
        byte[] bytes = text.getBytes(StandardCharsets.ISO_8859_1);
        int odd = bytes.length % 20;
        bench.end(0);
        if (odd > 0) {
            feed(bench, Arrays.copyOf(bytes, 20));
            bench.end(odd);
        }
        for (int i = odd; i < bytes.length; i += 20) {
            feed(bench, Arrays.copyOfRange(bytes, i, i + 20));
        }
    }

    private static void feed(UnifyBench bench, byte[] bytes) {
        IntBuffer five = ByteBuffer.wrap(bytes).asIntBuffer();
        bench.feed(five.get(0), five.get(1), five.get(2), five.get(3), five.get(4));
    }

    static Object read(UnifyBench bench, int r, String text) {
        load(bench, text);
        return outcome(() -> bench.read(r));
    }

    /** The whole result, taken word by word. */
    static String result(UnifyBench bench) {
        int length = bench.count(1);
        StringBuilder text = new StringBuilder();
        for (int i = 0; i < length; i += 8) {
            long word = bench.word(i);
            for (int k = 0; k < 8; k++) {
                int b = (int) (word >>> 56 - 8 * k) & 255;
                if (i + k < length) {
                    text.append((char) b);
                } else {
                    due("byte behind the end of the result", 0, b);
                }
            }
        }
        return text.toString();
    }

    static String printed(UnifyBench bench, int r) {
        Object length = outcome(() -> bench.print(r));
        if (!(length instanceof Integer)) {
            return length.toString();
        }
        String text = result(bench);
        due("length of the result", text.length(), length);
        return text;
    }

    static String repeated(String text, int times) {
        return text.repeat(times);
    }

    /** A new bench with the texts read into registers 0, 1 and so on. */
    static UnifyBench bench(String... texts) {
        UnifyBench bench = new UnifyBench();
        for (int r = 0; r < texts.length; r++) {
            due("read of " + texts[r], true, read(bench, r, texts[r]) instanceof Integer);
        }
        return bench;
    }

    static void reads(String text, String printed, int symbols) {
        UnifyBench bench = new UnifyBench();
        due("read of " + text, symbols, read(bench, 3, text));
        due("place behind " + text, -1, bench.count(2));
        due("tape behind " + text, 0, bench.count(0));
        due("print of " + text, printed, printed(bench, 3));
    }

    static void breaks(String text, int place) {
        UnifyBench bench = new UnifyBench();
        read(bench, 3, "kept.");
        due("read of " + text, "throws.UnsupportedOperationException", read(bench, 3, text));
        due("place behind " + text, place, bench.count(2));
        due("tape behind " + text, 0, bench.count(0));
        due("register behind " + text, "kept", printed(bench, 3));
    }
}
