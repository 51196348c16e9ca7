/** The promises one by one, but for what is read as what (ReadingTest): ordinary calls, edges and wrong inputs. */
public final class PromisesTest {
    private static final String ILLEGAL = "throws.IllegalArgumentException";
    private static final String BOUNDS = "throws.IndexOutOfBoundsException";
    private static final String BROKEN = "throws.UnsupportedOperationException";
    private static final String NONE = "throws.NoSuchElementException";
    private static final int[] NO_REGISTERS = {-1, 8, Integer.MIN_VALUE, Integer.MAX_VALUE};

    private PromisesTest() {
    }

    public static void main(String[] args) {
        promise1NewObject();
        promise2Feed();
        promise3End();
        promise4Read();
        promise5Unify();
        promise5NeverInItself();
        promise5GreatTerms();
        promise6Same();
        promise7Part();
        promise8Mark();
        promise9Undo();
        promise10Reset();
        promise11Print();
        promise12Word();
        promise13Count();
        Checks.close("PromisesTest");
    }

    private static UnifyBench bench(String... texts) {
        return Checks.bench(texts);
    }

    private static void promise1NewObject() {
        UnifyBench bench = new UnifyBench();
        Checks.due("new tape", 0, bench.count(0));
        Checks.due("new result", 0, bench.count(1));
        Checks.due("new place", -1, bench.count(2));
        Checks.due("new bindings", 0, bench.count(3));
        Checks.due("new undo", NONE, () -> bench.undo());
        Checks.due("new word", BOUNDS, () -> bench.word(0));
        for (int r = 0; r < 8; r++) {
            Checks.due("new register", "[]", Checks.printed(bench, r));
        }
    }

    private static void promise2Feed() {
        UnifyBench bench = new UnifyBench();
        Checks.due("feed", 20, bench.feed(0x61626364, 0x65666768, 0x696a6b6c, 0x6d6e6f70, 0x71727374));
        Checks.due("feed", 40, bench.feed(0x7576772e, 0x20202020, 0x20202020, 0x20202020, 0x20202020));
        Checks.due("count 0", 40, bench.count(0));
        Checks.due("read", 1, bench.read(0));
        Checks.due("bytes in order", "abcdefghijklmnopqrstuvw", Checks.printed(bench, 0));
        for (int i = 1; i <= 204; i++) {
            Checks.due("feed " + i, 20 * i, bench.feed(-1, -1, -1, -1, -1));
        }
        Checks.due("feed 205", BOUNDS, () -> bench.feed(0, 0, 0, 0, 0));
        Checks.due("tape stays", 4080, bench.count(0));
        bench.end(4077);
        Checks.due("feed one byte too many", BOUNDS, () -> bench.feed(0, 0, 0, 0, 0));
        bench.end(4076);
        Checks.due("feed to the last byte", 4096, bench.feed(0, 0, 0, 0, 0));
        Checks.due("feed beyond it", BOUNDS, () -> bench.feed(0, 0, 0, 0, 0));
        Checks.due("tape is full", 4096, bench.count(0));
    }

    private static void promise3End() {
        UnifyBench bench = new UnifyBench();
        Checks.due("end 0", 0, bench.end(0));
        Checks.due("end 1 of 0", ILLEGAL, () -> bench.end(1));
        bench.feed(0x61622e63, 0, 0, 0, 0);
        Checks.due("end -1", ILLEGAL, () -> bench.end(-1));
        Checks.due("end 21", ILLEGAL, () -> bench.end(21));
        Checks.due("end all", 20, bench.end(20));
        Checks.due("end 3", 3, bench.end(3));
        Checks.due("end 4", ILLEGAL, () -> bench.end(4));
        Checks.due("count 0", 3, bench.count(0));
        Checks.due("read", 1, bench.read(0));
        Checks.due("print", "ab", Checks.printed(bench, 0));
    }

    private static void promise4Read() {
        UnifyBench bench = new UnifyBench();
        Checks.due("read", 3, Checks.read(bench, 7, "f(X,Y)."));
        Checks.due("others stay", "[]", Checks.printed(bench, 0));
        for (int r : NO_REGISTERS) {
            Checks.due("read " + r, ILLEGAL, Checks.read(bench, r, "g(Z"));
            Checks.due("tape stays", 3, bench.count(0));
            Checks.due("place stays", -1, bench.count(2));
        }
        Checks.due("read of what is left", BROKEN, () -> bench.read(7));
        Checks.due("place", 3, bench.count(2));
        Checks.due("register stays", "f(_0,_1)", Checks.printed(bench, 7));
        Checks.due("empty tape", BROKEN, () -> bench.read(7));
        Checks.due("place", 0, bench.count(2));
        Checks.due("read as it is written", 3, Checks.read(bench, 6, "f(Y,X)."));
        Checks.due("variables by name", true, bench.unify(6, 7));
        Checks.due("variables by name", 1, bench.count(3));
        Checks.due("read of bound ones", 3, Checks.read(bench, 5, "g(X,Y)."));
        Checks.due("they are the same", "g(_0,_0)", Checks.printed(bench, 5));
        UnifyBench great = bench("f(A,A).", "f(g(B),C).");
        great.unify(0, 1);
        Checks.due("symbols as they were read", 1, Checks.read(great, 2, "C."));
        Checks.due("meant wherever it stands", "g(_0)", Checks.printed(great, 2));
    }

    private static void unifies(String a, String b, String printed, int bound) {
        UnifyBench bench = bench(a, b);
        for (int turn = 0; turn < 2; turn++) {
            bench.mark();
            Checks.due(a + " with " + b, true, bench.unify(turn, 1 - turn));
            Checks.due(a + " printed", printed, Checks.printed(bench, 0));
            Checks.due(b + " printed", printed, Checks.printed(bench, 1));
            Checks.due(a + " same as " + b, true, bench.same(0, 1));
            Checks.due(a + " bound with " + b, bound, bench.count(3));
            Checks.due(a + " again with " + b, true, bench.unify(turn, 1 - turn));
            Checks.due(a + " bound again", bound, bench.count(3));
            bench.undo();
            Checks.due("bound after undo", 0, bench.count(3));
        }
    }

    private static void differs(String a, String b) {
        UnifyBench bench = bench(a, b);
        String left = Checks.printed(bench, 0);
        String right = Checks.printed(bench, 1);
        for (int turn = 0; turn < 2; turn++) {
            Checks.due(a + " with " + b, false, bench.unify(turn, 1 - turn));
            Checks.due("all stays", left, Checks.printed(bench, 0));
            Checks.due("all stays", right, Checks.printed(bench, 1));
            Checks.due("none bound", 0, bench.count(3));
            Checks.due("not the same", false, bench.same(turn, 1 - turn));
        }
    }

    private static void promise5Unify() {
        unifies("a.", "a.", "a", 0);
        unifies("12.", "012.", "12", 0);
        unifies("X.", "X.", "_0", 0);
        unifies("X.", "Y.", "_0", 1);
        unifies("X.", "f(a).", "f(a)", 1);
        unifies("f(X,b).", "f(a,Y).", "f(a,b)", 2);
        unifies("f(X,X).", "f(Y,Z).", "f(_0,_0)", 2);
        unifies("f(X,Y,Z).", "f(Y,Z,X).", "f(_0,_0,_0)", 2);
        unifies("f(X,Y,X).", "f(Y,X,a).", "f(a,a,a)", 2);
        unifies("f(_,_).", "f(a,B).", "f(a,_0)", 2);
        unifies("[A,B|C].", "[1,2,3].", "[1,2,3]", 3);
        unifies("[A|B].", "'.'(x,[]).", "[x]", 2);
        unifies("f(X,g(X)).", "f(h(Y),g(h(b))).", "f(h(b),g(h(b)))", 2);
        unifies("f(X,Y).", "f(g(Y,Y),g(Z,Z)).", "f(g(g(_0,_0),g(_0,_0)),g(_0,_0))", 2);
        unifies("'a b'(X).", "'a b'(1).", "'a b'(1)", 1);
        unifies("[](X).", "'[]'(1).", "[](1)", 1);
        differs("a.", "b.");
        differs("1.", "2.");
        differs("1.", "-1.");
        differs("1.", "'1'.");
        differs("-1.", "- 1.");
        differs("a.", "f(a).");
        differs("f.", "f(a).");
        differs("f(a).", "f(a,a).");
        differs("f(a).", "g(a).");
        differs("f(X,X).", "f(a,b).");
        differs("f(X,Y,b).", "f(Y,a,X).");
        differs("[A,B].", "[1,2,3].");
        differs("[].", "[_].");
        UnifyBench bench = bench("X.");
        for (int r : NO_REGISTERS) {
            Checks.due("unify " + r, ILLEGAL, () -> bench.unify(r, 0));
            Checks.due("unify " + r, ILLEGAL, () -> bench.unify(0, r));
        }
        Checks.due("unify of one", true, bench.unify(0, 0));
        Checks.due("X with []", true, bench.unify(0, 7));
        Checks.due("X is []", "[]", Checks.printed(bench, 0));
    }

    private static void promise5NeverInItself() {
        differs("X.", "f(X).");
        differs("X.", "[a|X].");
        differs("f(X,Y).", "f(g(Y),g(X)).");
        differs("f(X,Y,X).", "f(Y,g(Z),Z).");
        differs("g(A,f(A)).", "g(f(B),A).");
        differs("f(A,B,C,D).", "f(g(B),g(C),g(D),g(A)).");
        UnifyBench bench = bench("X.", "f(Y).", "Y.", "g(X).");
        Checks.due("X with f(Y)", true, bench.unify(0, 1));
        Checks.due("Y with g(X)", false, bench.unify(2, 3));
        Checks.due("X as it was", "f(_0)", Checks.printed(bench, 0));
        Checks.due("Y as it was", "_0", Checks.printed(bench, 2));
        Checks.due("bound", 1, bench.count(3));
    }

    /** Terms that double with each variable: none can be gone through as often as its parts stand in it. */
    private static void promise5GreatTerms() {
        String[] x = doubling("X", 90);
        String[] y = doubling("Y", 90);
        UnifyBench bench = bench(x[0], x[1], y[0], y[1]);
        Checks.due("doubled X", true, bench.unify(0, 1));
        Checks.due("doubled Y", true, bench.unify(2, 3));
        Checks.due("too great for the result", BOUNDS, () -> bench.print(0));
        Checks.due("not the same", false, bench.same(0, 2));
        Checks.due("bound", 180, bench.count(3));
        bench.mark();
        Checks.due("X with Y", true, bench.unify(0, 2));
        Checks.due("bound", 181, bench.count(3));
        Checks.due("the same", true, bench.same(1, 3));
        bench.undo();
        Checks.read(bench, 4, "X0.");
        Checks.read(bench, 5, "f(Y90).");
        Checks.read(bench, 6, "Y0.");
        Checks.read(bench, 7, "X90.");
        Checks.due("X0 with what has Y0 in it", true, bench.unify(4, 5));
        Checks.due("Y0 with what has it in it", false, bench.unify(6, 7));
        Checks.due("X with Y", false, bench.unify(0, 2));
        Checks.due("bound", 181, bench.count(3));
    }

    /** [X1,X2,..] and [f(X0,X0),f(X1,X1),..]. */
    private static String[] doubling(String name, int times) {
        StringBuilder left = new StringBuilder("[" + name + "1");
        StringBuilder right = new StringBuilder("[f(" + name + "0," + name + "0)");
        for (int i = 2; i <= times; i++) {
            left.append("," + name + i);
            right.append(",f(" + name + (i - 1) + "," + name + (i - 1) + ")");
        }
        return new String[] {left + "].", right + "]."};
    }

    private static void promise6Same() {
        UnifyBench bench = bench("f(X,g(Y),1,a).", "f(X,g(Y),1,a).", "f(X,g(X),1,a).", "f(_,_).", "f(_,_).", "X.", "Y.");
        Checks.due("with itself", true, bench.same(3, 3));
        Checks.due("read twice", true, bench.same(0, 1));
        Checks.due("another variable", false, bench.same(0, 2));
        Checks.due("_ is another", false, bench.same(3, 4));
        Checks.due("two variables", false, bench.same(5, 6));
        Checks.due("variable and term", false, bench.same(5, 0));
        Checks.due("term and variable", false, bench.same(0, 5));
        Checks.due("nothing bound", 0, bench.count(3));
        bench.unify(5, 6);
        Checks.due("made the same", true, bench.same(5, 6));
        Checks.due("made the same", true, bench.same(0, 2));
        Checks.due("still not", false, bench.same(3, 4));
        UnifyBench other = bench("f(a,b).", "f(a,c).", "1.", "'1'.", "[a].", "'.'(a,[]).", "f(a).");
        Checks.due("another atom", false, other.same(0, 1));
        Checks.due("integer and atom", false, other.same(2, 3));
        Checks.due("lists", true, other.same(4, 5));
        Checks.due("another number of terms", false, other.same(0, 6));
        for (int r : NO_REGISTERS) {
            Checks.due("same " + r, ILLEGAL, () -> other.same(r, 0));
            Checks.due("same " + r, ILLEGAL, () -> other.same(0, r));
        }
    }

    private static String takenPart(UnifyBench bench, int to, int a, int i) {
        Object outcome = Checks.outcome(() -> {
            bench.part(to, a, i);
            return "";
        });
        return outcome.equals("") ? Checks.printed(bench, to) : outcome.toString();
    }

    private static void promise7Part() {
        UnifyBench bench = bench("f(a,X,g(Y),[1]).", "x.", "12.", "X.", "Z.", "h(1,2,3,4,5,6,7,8).");
        Checks.due("part 1", "a", takenPart(bench, 7, 0, 1));
        Checks.due("part 2", "_0", takenPart(bench, 7, 0, 2));
        Checks.due("it is that variable", true, bench.same(7, 3));
        Checks.due("part 3", "g(_0)", takenPart(bench, 7, 0, 3));
        Checks.due("part 4", "[1]", takenPart(bench, 7, 0, 4));
        Checks.due("head", "1", takenPart(bench, 6, 7, 1));
        Checks.due("tail", "[]", takenPart(bench, 6, 7, 2));
        Checks.due("part 5 of 4", NONE, takenPart(bench, 7, 0, 5));
        Checks.due("part 8", "8", takenPart(bench, 6, 5, 8));
        Checks.due("part 9", NONE, takenPart(bench, 6, 5, 9));
        Checks.due("greatest part", NONE, takenPart(bench, 6, 5, Integer.MAX_VALUE));
        Checks.due("part 0", ILLEGAL, takenPart(bench, 6, 5, 0));
        Checks.due("part -1", ILLEGAL, takenPart(bench, 6, 5, -1));
        Checks.due("least part", ILLEGAL, takenPart(bench, 6, 5, Integer.MIN_VALUE));
        Checks.due("of an atom", NONE, takenPart(bench, 6, 1, 1));
        Checks.due("of an integer", NONE, takenPart(bench, 6, 2, 1));
        Checks.due("of a variable", NONE, takenPart(bench, 6, 3, 1));
        Checks.due("register stays", "8", Checks.printed(bench, 6));
        Checks.due("range first", ILLEGAL, takenPart(bench, 6, 1, 0));
        for (int r : NO_REGISTERS) {
            Checks.due("to " + r, ILLEGAL, takenPart(bench, r, 1, 1));
            Checks.due("of " + r, ILLEGAL, takenPart(bench, 1, r, 1));
        }
        bench.unify(4, 0);
        Checks.due("of what a variable became", "a", takenPart(bench, 6, 4, 1));
        Checks.due("to the register itself", "g(_0)", takenPart(bench, 0, 0, 3));
    }

    private static void promise8Mark() {
        UnifyBench bench = new UnifyBench();
        for (int i = 1; i <= 30; i++) {
            Checks.due("mark " + i, i, bench.mark());
        }
        Checks.due("mark 31", BOUNDS, () -> bench.mark());
        Checks.due("undo of 30", 29, bench.undo());
        Checks.due("mark 30", 30, bench.mark());
        Checks.due("mark 31", BOUNDS, () -> bench.mark());
    }

    private static void promise9Undo() {
        UnifyBench bench = bench("X.", "f(Y).", "Y.", "a.");
        bench.mark();
        bench.unify(0, 1);
        bench.mark();
        bench.unify(2, 3);
        Checks.read(bench, 4, "Z.");
        bench.unify(4, 0);
        bench.part(0, 0, 1);
        Checks.due("before", "a", Checks.printed(bench, 0));
        Checks.due("before", "f(a)", Checks.printed(bench, 4));
        Checks.due("bound before", 3, bench.count(3));
        Checks.due("undo", 1, bench.undo());
        Checks.due("register", "f(_0)", Checks.printed(bench, 0));
        Checks.due("register", "[]", Checks.printed(bench, 4));
        Checks.due("bound", 1, bench.count(3));
        Checks.read(bench, 5, "[Z,X,Y,Z].");
        Checks.due("Z became nothing", "[_0,f(_1),_1,_0]", Checks.printed(bench, 5));
        Checks.due("undo", 0, bench.undo());
        Checks.due("register", "[]", Checks.printed(bench, 5));
        Checks.due("register", "_0", Checks.printed(bench, 0));
        Checks.due("bound", 0, bench.count(3));
        Checks.due("undo of none", NONE, () -> bench.undo());
        Checks.due("nothing changed", "f(_0)", Checks.printed(bench, 1));
        knownBehindMark();
        nestedMarks();
    }

    private static void knownBehindMark() {
        UnifyBench bench = new UnifyBench();
        bench.mark();
        Checks.read(bench, 0, "[A," + Checks.repeated("_,", 198) + "B].");
        bench.undo();
        Checks.due("they count still", BOUNDS, Checks.read(bench, 0, "C."));
        Checks.due("they are known still", 5, Checks.read(bench, 0, "[A,B]."));
    }

    private static void nestedMarks() {
        UnifyBench bench = new UnifyBench();
        for (int i = 0; i < 30; i++) {
            bench.mark();
            Checks.read(bench, 0, "V" + i + ".");
            Checks.read(bench, 1, i + ".");
            bench.unify(0, 1);
        }
        for (int i = 29; i >= 0; i--) {
            Checks.due("bound", i + 1, bench.count(3));
            Checks.due("register", "" + i, Checks.printed(bench, 0));
            Checks.due("undo", i, bench.undo());
        }
        Checks.due("register", "[]", Checks.printed(bench, 0));
    }

    private static void promise10Reset() {
        UnifyBench bench = bench("X.", "a.", "f(X).");
        bench.mark();
        bench.unify(0, 1);
        bench.print(2);
        Checks.read(bench, 3, "a b.");
        bench.feed(1, 2, 3, 4, 5);
        bench.reset();
        for (int r = 0; r < 8; r++) {
            Checks.due("tape stays", 20, bench.count(0));
            Checks.due("result stays", "f(a)", Checks.result(bench));
        }
        Checks.due("place stays", 2, bench.count(2));
        Checks.due("none bound", 0, bench.count(3));
        Checks.due("no marks", NONE, () -> bench.undo());
        for (int r = 0; r < 8; r++) {
            Checks.due("register", "[]", Checks.printed(bench, r));
        }
        Checks.read(bench, 0, "X.");
        Checks.due("X is a new one", "_0", Checks.printed(bench, 0));
        Checks.due("mark", 1, bench.mark());
        for (int i = 0; i < 3; i++) {
            bench.reset();
            Checks.due("200 variables again", 401, Checks.read(bench, 0, "[" + Checks.repeated("_,", 199) + "_]."));
        }
    }

    private static void promise11Print() {
        UnifyBench bench = bench("f(B,A,[B|A],'C d').", "X.");
        Checks.due("print", 22, bench.print(0));
        Checks.due("result", "f(_0,_1,[_0|_1],'C d')", Checks.result(bench));
        for (int r : NO_REGISTERS) {
            Checks.due("print " + r, ILLEGAL, () -> bench.print(r));
        }
        Checks.due("result stays", "f(_0,_1,[_0|_1],'C d')", Checks.result(bench));
        longResults();
    }

    private static void longResults() {
        // f, ( and ), and 7 commas beside the names.
        String name = Checks.repeated("a", 508);
        UnifyBench bench = bench("f(X,X,X,X,X,X,X,X).", name + ".", "X.");
        bench.unify(1, 2);
        Checks.due("8 long names", 8 * 508 + 10, bench.print(0));
        Checks.due("result", "f(" + Checks.repeated(name + ",", 7) + name + ")", Checks.result(bench));
        exactResult(22, 4096);
        exactResult(23, "throws.IndexOutOfBoundsException");
        UnifyBench kept = bench("keep.", "'" + Checks.repeated("''", 2037) + "'.", "[X,X].", "X.");
        kept.print(0);
        kept.unify(1, 3);
        Checks.due("too long", BOUNDS, () -> kept.print(2));
        Checks.due("result stays", "keep", Checks.result(kept));
        Checks.due("one alone is not", 4076, kept.print(1));
    }

    /** f of 8 names of 508 bytes but for the last one, which is longer. */
    private static void exactResult(int longer, Object answer) {
        String name = Checks.repeated("a", 508);
        UnifyBench bench = bench("f(X,X,X,X,X,X,X,Y).", name + ".", "X.", name + Checks.repeated("b", longer) + ".", "Y.");
        bench.unify(1, 2);
        bench.unify(3, 4);
        Checks.due(longer + " bytes longer", answer, () -> bench.print(0));
    }

    private static void promise12Word() {
        UnifyBench bench = bench("abcdefghij.", "X.", "'~'.");
        bench.print(0);
        Checks.due("word 0", 0x6162636465666768L, bench.word(0));
        Checks.due("word 1", 0x6263646566676869L, bench.word(1));
        Checks.due("word 2", 0x636465666768696aL, bench.word(2));
        Checks.due("word 3", 0x6465666768696a00L, bench.word(3));
        Checks.due("word 9", 0x6a00000000000000L, bench.word(9));
        Checks.due("word 10", BOUNDS, () -> bench.word(10));
        Checks.due("word -1", BOUNDS, () -> bench.word(-1));
        Checks.due("greatest word", BOUNDS, () -> bench.word(Integer.MAX_VALUE));
        Checks.due("least word", BOUNDS, () -> bench.word(Integer.MIN_VALUE));
        bench.print(2);
        Checks.due("nothing of a longer one", 0x7e00000000000000L, bench.word(0));
        Checks.due("word 1", BOUNDS, () -> bench.word(1));
    }

    private static void promise13Count() {
        UnifyBench bench = bench("f(X,Y).", "f(Y,Z).", "f(a,b).");
        Checks.due("count -1", ILLEGAL, () -> bench.count(-1));
        Checks.due("count 4", ILLEGAL, () -> bench.count(4));
        Checks.due("least count", ILLEGAL, () -> bench.count(Integer.MIN_VALUE));
        Checks.due("greatest count", ILLEGAL, () -> bench.count(Integer.MAX_VALUE));
        bench.feed(0, 0, 0, 0, 0);
        Checks.due("tape", 20, bench.count(0));
        bench.print(0);
        Checks.due("result", 8, bench.count(1));
        bench.unify(0, 1);
        Checks.due("three made one", 2, bench.count(3));
        Checks.due("not a and b", false, bench.unify(0, 2));
        Checks.due("as before", 2, bench.count(3));
        Checks.read(bench, 5, " f(a.");
        Checks.due("place", 4, bench.count(2));
        Checks.read(bench, 5, "f(a).");
        Checks.due("no place", -1, bench.count(2));
    }
}
