import java.util.Random;

/** Long runs of calls with random texts, each answer compared with the model's. The seeds are fixed. */
public final class ModelTest {
    private static final String[] SIGNS = {"a", "b", "f", "g", "f(", "g(", "h(", ")", ")", ")", "[", "]", "]", "[]", "|", ",", ",",
        "(", "X", "Y", "Z", "_", "_A", "1", "23", "-", "- ", "-1", "+", "*", "=", " = ", "\\+", "\\+ ", " mod ", " is ", "mod",
        ":-", ";", "->", "','", "'-'", "'a b'", "'it''s'", "''", "'='", "!", ".", "..", ". ", " ", "%c\n", "\n", "{", "}", "'",
        "9007199254740991", "9007199254740992", "//", "\"", "@", "'[]'", "'.'", "'.'(", "=(", "-(", "\\+(", "=="};

    private ModelTest() {
    }

    public static void main(String[] args) {
        for (int seed = 1; seed <= 3000; seed++) {
            run(new Random(seed), seed, seed % 3);
        }
        Checks.close("ModelTest");
    }

    private static void run(Random random, int seed, int style) {
        UnifyBench bench = new UnifyBench();
        Model model = new Model();
        for (int i = 0; i < 60; i++) {
            call(random, "seed " + seed + ", step " + i + ": ", style, bench, model);
            Checks.due("seed " + seed + ", step " + i + ": count 3", model.bound(), bench.count(3));
        }
        for (int r = 0; r < 8; r++) {
            Checks.due("seed " + seed + ": register " + r, model.printed(r), Checks.printed(bench, r));
        }
    }

    private static void call(Random random, String at, int style, UnifyBench bench, Model model) {
        int a = random.nextInt(8);
        int b = random.nextInt(8);
        int which = random.nextInt(100);
        if (which < 40) {
            String text = text(random, style);
            Checks.due(at + "read of " + text, model.read(a, text), Checks.read(bench, a, text));
            Checks.due(at + "place of " + text, model.place, bench.count(2));
            Checks.due(at + "print of " + text, model.printed(a), Checks.printed(bench, a));
        } else if (which < 65) {
            Checks.due(at + "unify", model.unify(a, b), bench.unify(a, b));
            Checks.due(at + "print", model.printed(a), Checks.printed(bench, a));
        } else if (which < 80) {
            Checks.due(at + "same", model.same(a, b), bench.same(a, b));
        } else if (which < 88) {
            int i = 1 + random.nextInt(3);
            Checks.due(at + "part", model.part(a, b, i), () -> {
                bench.part(a, b, i);
                return "";
            });
        } else if (which < 94) {
            Checks.due(at + "mark", model.mark(), () -> bench.mark());
        } else if (which < 99) {
            Checks.due(at + "undo", model.undo(), () -> bench.undo());
        } else {
            model.reset();
            bench.reset();
        }
    }

    private static String text(Random random, int style) {
        StringBuilder text = new StringBuilder();
        if (style == 0) {
            for (int i = random.nextInt(12); i >= 0; i--) {
                text.append(SIGNS[random.nextInt(SIGNS.length)]);
            }
        } else {
            term(random, style == 1 ? 3 : 2, style, text);
            if (style == 1 && random.nextInt(3) == 0) {
                int at = random.nextInt(text.length() + 1);
                text.insert(at, SIGNS[random.nextInt(SIGNS.length)]);
            }
        }
        return text.append(random.nextInt(20) == 0 ? "" : ".").toString();
    }

    /** Style 1 has all kinds of terms; style 2 few names, so that many can be unified. */
    private static void term(Random random, int depth, int style, StringBuilder out) {
        int which = random.nextInt(style == 1 ? 12 : 6);
        String[] leaves = {"a", "b", "X", "Y", "Z", "W", "V", "U"};
        if (depth == 0 || which < 2) {
            out.append(leaves[random.nextInt(leaves.length)]);
        } else if (which < 5) {
            out.append(style == 1 && random.nextBoolean() ? "g(" : "f(");
            int parts = style == 1 ? 1 + random.nextInt(9) / 3 : 2;
            terms(random, depth, style, parts, out);
            out.append(")");
        } else if (which == 5) {
            out.append("[");
            terms(random, depth, style, 1 + random.nextInt(3), out);
            out.append(random.nextBoolean() ? "|T" : "").append("]");
        } else if (which < 9) {
            String[] operators = {"+", "-", "*", " mod ", "=", " is ", ",", ";", "->", ":-", " = ", " - ", "//", "=\\="};
            term(random, depth - 1, style, out);
            out.append(operators[random.nextInt(operators.length)]);
            term(random, depth - 1, style, out);
        } else if (which == 9) {
            out.append(random.nextBoolean() ? "- " : "\\+ ");
            term(random, depth - 1, style, out);
        } else if (which == 10) {
            out.append(random.nextInt(9) - 4);
        } else {
            out.append("(");
            term(random, depth - 1, style, out);
            out.append(")");
        }
    }

    private static void terms(Random random, int depth, int style, int parts, StringBuilder out) {
        for (int i = 0; i < parts; i++) {
            out.append(i == 0 ? "" : ",");
            term(random, depth - 1, style, out);
        }
    }
}
