import java.util.ArrayList;
import java.util.List;

/** The edges that the promises name, and those of "Terms" for what is unified and printed, a sentence at a time. */
public final class CallsEdgesTest {
    private static final String ILLEGAL = "throws.IllegalArgumentException";
    private static final String BOUNDS = "throws.IndexOutOfBoundsException";
    private static final String BROKEN = "throws.UnsupportedOperationException";
    private static final String NONE = "throws.NoSuchElementException";
    private static final int[] NO_REGISTERS = {-1, 8, 9, 256, Integer.MIN_VALUE, Integer.MAX_VALUE};
    private static final String LONGEST = Checks.repeated("a", 4095);

    /** One call, or some, of a bench. */
    private interface Call {
        Object on(UnifyBench bench);
    }

    private CallsEdgesTest() {
    }

    public static void main(String[] args) {
        registersAtFirst();
        variablesByName();
        variablesAtMost();
        becomesNoTermItStandsIn();
        unifiedOnlyIfTheSame();
        meantWhereverItStands();
        printedNames();
        printedLists();
        printedVariables();
        rangeFirst();
        throwsAndChangesNothing();
        callsLeaveTheRest();
        feedToTheLast();
        endCuts();
        readTakesTheTape();
        readBroken();
        readTooMuch();
        readLeaves();
        unifyOrStay();
        refusedIsForgotten();
        sameAsTheyAre();
        partsFromOne();
        thirtyMarks();
        undoToTheMark();
        undoKeepsVariables();
        undoOfNone();
        resetAll();
        resetLeaves();
        resultAtMost();
        words();
        counts();
        countsBound();
        fullRun();
        Checks.close("CallsEdgesTest");
    }

    private static Object part(UnifyBench bench, int to, int a, int i) {
        return Checks.outcome(() -> {
            bench.part(to, a, i);
            return Checks.printed(bench, to);
        });
    }

    private static void registersAtFirst() {
        Checks.sentence("REGISTERS 0 .. 7 hold a TERM each, [] at first; Promise 1: All REGISTERS are []");
        for (int r = 0; r < 8; r++) {
            UnifyBench bench = new UnifyBench();
            Checks.due("register " + r, "[]", Checks.printed(bench, r));
            Checks.due("no part", NONE, part(bench, 0, r, 1));
            Checks.due("the same", true, bench.same(r, 7 - r));
            Checks.due("unified", true, bench.unify(r, 7 - r));
            Checks.read(bench, r, "a" + r + ".");
            for (int other = 0; other < 8; other++) {
                Checks.due("register " + other, other == r ? "a" + r : "[]", Checks.printed(bench, other));
            }
        }
    }

    private static void variablesByName() {
        Checks.sentence("VARIABLES are the same in all REGISTERS if they have the same name, but each _ is another one");
        UnifyBench bench = Checks.bench("X.", "f(X,Y).", "X1.", "_.", "_.", "__.", "__.", "x.");
        Checks.due("X and X1", false, bench.same(0, 2));
        Checks.due("_ and _", false, bench.same(3, 4));
        Checks.due("__ and __", true, bench.same(5, 6));
        bench.unify(0, 7);
        Checks.due("X in f(X,Y)", "f(x,_0)", Checks.printed(bench, 1));
        bench.unify(3, 7);
        Checks.due("the other _", "_0", Checks.printed(bench, 4));
        Checks.sentence("from the beginning or the latest reset on");
        Checks.read(bench, 0, "[X,Y].");
        Checks.due("X before reset", "[x,_0]", Checks.printed(bench, 0));
        bench.reset();
        Checks.read(bench, 0, "[X,Y].");
        Checks.due("X behind reset", "[_0,_1]", Checks.printed(bench, 0));
    }

    private static String list(String item, int times) {
        return "[" + Checks.repeated(item + ",", times - 1) + item + "].";
    }

    private static String variables(int from, int to) {
        StringBuilder text = new StringBuilder("[V" + from);
        for (int i = from + 1; i <= to; i++) {
            text.append(",V" + i);
        }
        return text + "].";
    }

    private static void variablesAtMost() {
        Checks.sentence("at most 200 different ones, each _ counts");
        Checks.due("200 _", 401, Checks.read(new UnifyBench(), 0, list("_", 200)));
        Checks.due("201 _", BOUNDS, Checks.read(new UnifyBench(), 0, list("_", 201)));
        Checks.due("200 names", 401, Checks.read(new UnifyBench(), 0, variables(1, 200)));
        Checks.due("201 names", BOUNDS, Checks.read(new UnifyBench(), 0, variables(1, 201)));
        Checks.due("400 times one name", 801, Checks.read(new UnifyBench(), 0, list("X", 400)));
        UnifyBench bench = new UnifyBench();
        Checks.due("100", 201, Checks.read(bench, 0, variables(1, 100)));
        Checks.due("150 _ more", BOUNDS, Checks.read(bench, 1, list("_", 150)));
        Checks.due("101 more", BOUNDS, Checks.read(bench, 1, variables(50, 201)));
        Checks.due("100 more", 303, Checks.read(bench, 1, variables(50, 200)));
        Checks.due("_ more", BOUNDS, Checks.read(bench, 1, "_."));
        Checks.due("one more", BOUNDS, Checks.read(bench, 1, "V201."));
        Checks.due("those known", 401, Checks.read(bench, 2, variables(1, 200)));
        bench.unify(0, 1);
        Checks.due("bound ones count still", BOUNDS, Checks.read(bench, 1, "V201."));
        bench.reset();
        Checks.due("200 again", 401, Checks.read(bench, 0, variables(1, 200)));
    }

    private static void unifies(boolean can, String a, String b, String printed) {
        for (int turn = 0; turn < 2; turn++) {
            UnifyBench bench = Checks.bench(a, b);
            String before = Checks.printed(bench, 0);
            Checks.due(a + " with " + b, can, bench.unify(turn, 1 - turn));
            Checks.due(a + " behind it", can ? printed : before, Checks.printed(bench, 0));
            Checks.due(a + " and " + b + " the same", can, bench.same(0, 1));
            if (!can) {
                Checks.due("none became anything", 0, bench.count(3));
            }
        }
    }

    private static void becomesNoTermItStandsIn() {
        Checks.sentence("a VARIABLE becomes what it is made the same as, but never a TERM that it stands in (that fails)");
        unifies(true, "X.", "X.", "_0");
        unifies(true, "f(X).", "f(X).", "f(_0)");
        unifies(true, "f(X,Y).", "f(Y,X).", "f(_0,_0)");
        unifies(false, "X.", "f(X).", "");
        unifies(false, "X.", "f(a,b,c,d,e,f,g,X).", "");
        unifies(false, "X.", "[a,b|X].", "");
        unifies(false, "X.", "- X.", "");
        unifies(false, "f(X,Y).", "f(Y,g(X)).", "");
        unifies(false, "f(X,Y).", "f(g(Y),g(X)).", "");
        unifies(false, "f(X,X).", "f(Y,g(Y)).", "");
        unifies(false, "f(X,Y,Z).", "f(g(Y),g(Z),g(X)).", "");
        unifies(true, "f(X,Y,Z).", "f(g(Y),g(Z),W).", "f(g(g(_0)),g(_0),_0)");
        UnifyBench bench = Checks.bench("X.", "f(Y).", "Y.", "g(Z).", "Z.", "h(X).");
        Checks.due("X = f(Y)", true, bench.unify(0, 1));
        Checks.due("Y = g(Z)", true, bench.unify(2, 3));
        Checks.due("Z = h(X)", false, bench.unify(4, 5));
        Checks.due("Z = X", false, bench.unify(4, 0));
        Checks.due("X as it was", "f(g(_0))", Checks.printed(bench, 0));
    }

    private static void unifiedOnlyIfTheSame() {
        Checks.sentence("INTEGERS, ATOMS the same; COMPOUNDS of the same NAME and number of TERMS, all of these one by one");
        unifies(true, "7.", "007.", "7");
        unifies(false, "7.", "-7.", "");
        unifies(false, "9007199254740991.", "9007199254740990.", "");
        unifies(false, "0.", "4294967296.", "");
        unifies(false, "1.", "'1'.", "");
        unifies(true, "a.", "'a'.", "a");
        unifies(false, "a.", "'A'.", "");
        unifies(false, "a.", "aa.", "");
        unifies(false, "''.", "[].", "");
        unifies(false, "f.", "f(a).", "");
        unifies(false, "f(a).", "f(a,a).", "");
        unifies(false, "f(a).", "g(a).", "");
        unifies(false, "0.", "[].", "");
        unifies(false, "[a].", "[a,b].", "");
        unifies(true, "f(a,X,c,Y,e,Z,g,W).", "f(A,b,B,d,C,f,D,h).", "f(a,b,c,d,e,f,g,h)");
        for (int i = 1; i <= 8; i++) {
            String eight = "f(1,2,3,4,5,6,7,8).";
            unifies(false, eight, eight.replace("" + i, "x"), "");
            unifies(true, eight, eight.replace("" + i, "X"), eight.substring(0, eight.length() - 1));
        }
    }

    private static void meantWhereverItStands() {
        Checks.sentence("What a VARIABLE became is meant wherever it stands");
        UnifyBench bench = Checks.bench("X.", "f(Y,b).", "g(X,[X|X]).", "Y.", "a.");
        bench.unify(0, 1);
        bench.unify(3, 4);
        Checks.due("printed", "g(f(a,b),[f(a,b)|f(a,b)])", Checks.printed(bench, 2));
        Checks.due("its part", "a", part(bench, 5, 0, 1));
        Checks.read(bench, 6, "g(X,[f(a,b)|X]).");
        Checks.due("the same", true, bench.same(2, 6));
        Checks.due("read later", 2, Checks.read(bench, 7, "- X."));
        Checks.due("printed", "-(f(a,b))", Checks.printed(bench, 7));
    }

    private static boolean isPlain(String name) {
        return name.matches("[a-z][A-Za-z0-9_]*|[-+*/\\\\^<>=~:.?@#&$]+|!|;|\\[\\]") && !name.equals(".");
    }

    private static void printedNames() {
        Checks.sentence("ATOMS and NAMES as they are, if they could be read so as one sign (but '.', which is in ' '),"
                + " else in ' '");
        List<String> names = new ArrayList<>(List.of("", "[]", ".", "..", "[ ]", "{}", "()", "_a", "-1", "a b", " a", "a ",
                "a%", "[]a", "||", "zZ_09", "9z", "+a", "a+", "!!", ";;", "!;", "'''", "a'b"));
        for (String first : new String[] {"", "a", "=", ".", "!", "["}) {
            for (char b = 32; b < 127; b++) {
                names.add(first + b);
            }
        }
        for (String name : names) {
            String quoted = "'" + name.replace("'", "''") + "'";
            String printed = isPlain(name) ? name : quoted;
            UnifyBench bench = Checks.bench(quoted + ".", quoted + "(" + quoted + ").", printed + " .");
            Checks.due("atom " + name, printed, Checks.printed(bench, 0));
            Checks.due("name " + name, printed + "(" + printed + ")", Checks.printed(bench, 1));
            Checks.due("read again " + name, true, bench.same(0, 2));
        }
        Checks.sentence("COMPOUNDS NAME(T,..), also of OPERATORS");
        Checks.reads("a = - b.", "=(a,-(b))", 4);
        Checks.reads("- 1.", "-(1)", 2);
        Checks.reads("a , 'B' ; ! .", ";(','(a,'B'),!)", 5);
    }

    private static void printedLists() {
        Checks.sentence("LISTS [A,B|C], |C unless it is []");
        Checks.reads("'.'(a,[]).", "[a]", 3);
        Checks.reads("'.'(a,b).", "[a|b]", 3);
        Checks.reads("'.'(a,'.'(b,[])).", "[a,b]", 5);
        Checks.reads("'.'('.'(a,[]),[]).", "[[a]]", 5);
        Checks.reads("'.'([],[]).", "[[]]", 3);
        Checks.reads("'.'(a).", "'.'(a)", 2);
        Checks.reads("'.'(a,b,c).", "'.'(a,b,c)", 4);
        Checks.reads("[a|'.'(b)].", "[a|'.'(b)]", 4);
        Checks.reads("[a|[](b)].", "[a|[](b)]", 4);
        Checks.reads("[a|'[]'].", "[a]", 3);
        UnifyBench bench = Checks.bench("[a|X].", "X.", "[b|Y].", "Y.", "[].");
        bench.unify(1, 2);
        Checks.due("a tail that was bound", "[a,b|_0]", Checks.printed(bench, 0));
        bench.unify(3, 4);
        Checks.due("a tail that became []", "[a,b]", Checks.printed(bench, 0));
    }

    private static void printedVariables() {
        Checks.sentence("VARIABLES _0, _1, .. in the order in which they come");
        UnifyBench bench = Checks.bench("f(Z,Y,X).", "g(X,Y,Z,X).", "X.", "Y.", "f(Q,W).");
        Checks.due("in order", "f(_0,_1,_2)", Checks.printed(bench, 0));
        Checks.due("anew each time", "g(_0,_1,_2,_0)", Checks.printed(bench, 1));
        bench.unify(2, 3);
        Checks.due("made one", "f(_0,_1,_1)", Checks.printed(bench, 0));
        bench.unify(3, 4);
        Checks.due("became more", "g(f(_0,_1),f(_0,_1),_2,f(_0,_1))", Checks.printed(bench, 1));
        UnifyBench many = new UnifyBench();
        Checks.read(many, 0, list("_", 200));
        StringBuilder all = new StringBuilder("[_0");
        for (int i = 1; i < 200; i++) {
            all.append(",_" + i);
        }
        Checks.due("200 of them", all + "]", Checks.printed(many, 0));
        Checks.sentence("PRINTED: INTEGERS. No blanks");
        Checks.reads("[ 0 , -0 , 10 , -10 , 9007199254740991 , -9007199254740991 , 1000000000000000 ].",
                "[0,0,10,-10,9007199254740991,-9007199254740991,1000000000000000]", 15);
    }

    private static void rangeFirst() {
        Checks.sentence("What is thrown, in this order: IllegalArgumentException: a number out of range; then as the call says");
        UnifyBench bench = Checks.bench("a.");
        Checks.due("to out of range, and a has no parts", ILLEGAL, part(bench, 8, 0, 1));
        Checks.due("a out of range", ILLEGAL, part(bench, 0, 8, 1));
        Checks.due("i out of range, and a has no parts", ILLEGAL, part(bench, 1, 0, 0));
        Checks.due("r out of range, and the tape is broken", ILLEGAL, Checks.read(bench, 8, "f("));
        Checks.read(bench, 0, list("_", 200));
        Checks.due("r out of range, and variables too many", ILLEGAL, Checks.read(bench, -1, "X."));
        Checks.due("broken, and variables too many", BROKEN, Checks.read(bench, 0, "f(X,Y"));
        UnifyBench great = tooGreat();
        Checks.due("too great", BOUNDS, () -> great.print(0));
        Checks.due("r out of range", ILLEGAL, () -> great.print(8));
    }

    /** Register 0 is too great to be printed. */
    private static UnifyBench tooGreat() {
        UnifyBench bench = Checks.bench("[X,X].", LONGEST + ".", "X.");
        bench.unify(1, 2);
        return bench;
    }

    private static UnifyBench used() {
        UnifyBench bench = Checks.bench("f(X,g(Y)).", "X.", "Y.", "12.", "[a|T].");
        bench.mark();
        bench.unify(1, 4);
        bench.mark();
        bench.unify(2, 3);
        bench.print(0);
        Checks.read(bench, 5, "f(a b).");
        Checks.load(bench, "k(X,Y,T,New).");
        return bench;
    }

    /** All that can be seen of a bench, with what it does behind it. */
    private static String seen(UnifyBench bench) {
        StringBuilder all = new StringBuilder();
        for (int what = 0; what < 4; what++) {
            all.append(bench.count(what)).append(' ');
        }
        all.append(Checks.result(bench)).append(' ');
        all.append(Checks.outcome(() -> bench.read(7))).append(' ').append(bench.count(2)).append(' ');
        for (int marks = 0; marks < 40; marks++) {
            for (int r = 0; r < 8; r++) {
                all.append(Checks.printed(bench, r)).append(' ');
            }
            all.append(bench.count(3)).append(' ').append(Checks.outcome(() -> bench.undo())).append('\n');
        }
        all.append(Checks.read(bench, 0, list("_", 195))).append(Checks.read(bench, 0, "_."));
        return all.append(Checks.read(bench, 0, "_.")).toString();
    }

    private static void changesNothing(String call, Object thrown, Call prepared, Call refused) {
        UnifyBench with = used();
        UnifyBench without = used();
        prepared.on(with);
        prepared.on(without);
        Checks.due(call, thrown, () -> refused.on(with));
        Checks.due("seen behind " + call, seen(without), seen(with));
    }

    private static void changesNothing(String call, Object thrown, Call refused) {
        changesNothing(call, thrown, bench -> 0, refused);
    }

    private static void throwsAndChangesNothing() {
        Checks.sentence("A call that throws changes nothing, but as said");
        for (int r : NO_REGISTERS) {
            changesNothing("read " + r, ILLEGAL, bench -> bench.read(r));
            changesNothing("unify " + r, ILLEGAL, bench -> bench.unify(r, 0));
            changesNothing("unify .. " + r, ILLEGAL, bench -> bench.unify(1, r));
            changesNothing("same " + r, ILLEGAL, bench -> bench.same(r, 0));
            changesNothing("same .. " + r, ILLEGAL, bench -> bench.same(0, r));
            changesNothing("part to " + r, ILLEGAL, bench -> part(bench, r, 0, 1));
            changesNothing("part of " + r, ILLEGAL, bench -> part(bench, 0, r, 1));
            changesNothing("print " + r, ILLEGAL, bench -> bench.print(r));
        }
        for (int i : new int[] {0, -1, Integer.MIN_VALUE}) {
            changesNothing("part " + i, ILLEGAL, bench -> part(bench, 5, 0, i));
        }
        changesNothing("part 3 of 2", NONE, bench -> part(bench, 5, 0, 3));
        changesNothing("part of an integer", NONE, bench -> part(bench, 5, 3, 1));
        changesNothing("part of []", NONE, bench -> part(bench, 5, 7, 1));
        changesNothing("end -1", ILLEGAL, bench -> bench.end(-1));
        changesNothing("end behind the tape", ILLEGAL, bench -> bench.end(bench.count(0) + 1));
        changesNothing("word -1", BOUNDS, bench -> bench.word(-1));
        changesNothing("word behind the result", BOUNDS, bench -> bench.word(bench.count(1)));
        changesNothing("count -1", ILLEGAL, bench -> bench.count(-1));
        changesNothing("count 4", ILLEGAL, bench -> bench.count(4));
        changesNothing("feed", BOUNDS, bench -> filled(bench, 4077), bench -> bench.feed(0, 0, 0, 0, 0));
        changesNothing("mark", BOUNDS, bench -> marked(bench, 28), bench -> bench.mark());
        changesNothing("undo", NONE, bench -> bench.undo() + bench.undo(), bench -> bench.undo());
        changesNothing("print", BOUNDS, bench -> Checks.read(bench, 6, "[" + Checks.repeated("'a''b',", 480) + "a].")
                + Checks.printed(bench, 3) + doubled(bench, 6), bench -> bench.print(6));
    }

    private static String tapeAndRest(UnifyBench bench) {
        return bench.count(0) + " bytes, " + rest(bench);
    }

    private static String rest(UnifyBench bench) {
        return Checks.result(bench) + " at " + bench.count(2);
    }

    private static void callsLeaveTheRest() {
        Checks.sentence("Nothing is promised beyond the state changes described");
        List<Call> calls = List.of(bench -> bench.unify(1, 2), bench -> bench.unify(0, 3), bench -> bench.same(0, 1),
                bench -> part(bench, 6, 0, 9), bench -> bench.mark(), bench -> bench.undo(), bench -> {
                    bench.part(6, 0, 2);
                    bench.reset();
                    return "";
                });
        for (int i = 0; i < calls.size(); i++) {
            UnifyBench bench = used();
            String before = tapeAndRest(bench);
            calls.get(i).on(bench);
            Checks.due("tape, result and place behind call " + i, before, tapeAndRest(bench));
        }
        UnifyBench bench = used();
        String before = rest(bench);
        bench.feed(1, 2, 3, 4, 5);
        bench.end(7);
        Checks.due("result and place behind feed and end", before, rest(bench));
        Checks.load(bench, "a.");
        bench.read(7);
        Checks.due("result behind read", before.replace(" at 4", " at -1"), rest(bench));
        Checks.read(bench, 7, "abc d.");
        Checks.load(bench, "tape");
        bench.print(3);
        Checks.due("tape and place behind print", "4 bytes, 12 at 4", tapeAndRest(bench));
    }

    private static Object filled(UnifyBench bench, int length) {
        while (bench.count(0) <= 4076) {
            bench.feed(0x61616161, 0x61616161, 0x61616161, 0x61616161, 0x61616161);
        }
        return bench.end(length);
    }

    private static Object marked(UnifyBench bench, int times) {
        for (int i = 0; i < times; i++) {
            bench.mark();
        }
        return times;
    }

    /** The register becomes a list of itself twice. */
    private static Object doubled(UnifyBench bench, int r) {
        Checks.read(bench, 7, "D.");
        bench.unify(7, r);
        return Checks.read(bench, r, "[D,D].");
    }

    private static void feedToTheLast() {
        Checks.sentence("THE TAPE has at most 4096 bytes; Promise 2: it would have more than 4096: IndexOutOfBoundsException");
        for (int length = 4070; length <= 4096; length++) {
            UnifyBench bench = new UnifyBench();
            filled(bench, Math.min(length, 4080));
            if (length > 4080) {
                bench.end(length - 20);
                bench.feed(0, 0, 0, 0, 0);
            }
            Checks.due("feed to " + length, length <= 4076 ? length + 20 : BOUNDS, () -> bench.feed(1, 2, 3, 4, 5));
            Checks.due("tape of " + length, length <= 4076 ? length + 20 : length, bench.count(0));
        }
        Checks.reads(LONGEST + ".", LONGEST, 1);
        Checks.sentence("The 20 bytes of five ints, the highest of each first, come to the TAPE. Answers its length");
        UnifyBench bench = new UnifyBench();
        Checks.due("first", 20, bench.feed(0x27202122, 0x23242526, 0x28292a2b, 0x2c2d2e2f, 0x3a3b3c3d));
        Checks.due("second", 40, bench.feed(0x3e3f405b, 0x5c5d5e5f, 0x607b7c7d, 0x7e27272e, 0x272e2020));
        Checks.due("read", 1, bench.read(0));
        Checks.due("in order", "' !\"#$%&()*+,-./:;<=>?@[\\]^_`{|}~''.'", Checks.printed(bench, 0));
        // Ints below 0 have bytes of 128 and more, which no neighbour may feel.
        bench.feed(0x6161ff61, 0xff616161, 0x80808080, 0x00ff00ff, -1);
        Checks.due("bytes above 127", BROKEN, () -> bench.read(0));
        Checks.due("place", 2, bench.count(2));
    }

    private static void endCuts() {
        Checks.sentence("Promise 3: The TAPE keeps its first n bytes, n 0 .. its length. Answers n");
        UnifyBench bench = new UnifyBench();
        Checks.due("end 0 of none", 0, bench.end(0));
        Checks.due("end 1 of none", ILLEGAL, () -> bench.end(1));
        Checks.due("end -1 of none", ILLEGAL, () -> bench.end(-1));
        bench.feed(0x61626364, 0x65666768, 0x2e2e2e2e, 0x2e2e2e2e, 0x2e2e2e2e);
        Checks.due("end -1", ILLEGAL, () -> bench.end(-1));
        Checks.due("least", ILLEGAL, () -> bench.end(Integer.MIN_VALUE));
        Checks.due("greatest", ILLEGAL, () -> bench.end(Integer.MAX_VALUE));
        Checks.due("end 21", ILLEGAL, () -> bench.end(21));
        Checks.due("end 20", 20, bench.end(20));
        Checks.due("end 19", 19, bench.end(19));
        Checks.due("end 20 of 19", ILLEGAL, () -> bench.end(20));
        Checks.due("end 3", 3, bench.end(3));
        Checks.due("tape", 3, bench.count(0));
        Checks.due("feed behind it", 23, bench.feed(0x787a2e20, 0, 0, 0, 0));
        bench.end(7);
        bench.read(0);
        Checks.due("first bytes and fed ones", "abcxz", Checks.printed(bench, 0));
        Checks.due("end 0 of a tape that was read", 0, bench.end(0));
        Checks.due("end 1 of it", ILLEGAL, () -> bench.end(1));
        bench.feed(1, 2, 3, 4, 5);
        Checks.due("end 0", 0, bench.end(0));
        Checks.due("tape", 0, bench.count(0));
    }

    private static void readTakesTheTape() {
        Checks.sentence("Promise 4: The TAPE, which is empty then (also if this throws, but for r), is a TERM and END,"
                + " and no more");
        UnifyBench bench = new UnifyBench();
        Checks.due("read", 1, Checks.read(bench, 0, "a."));
        Checks.due("tape", 0, bench.count(0));
        Checks.due("read of none", BROKEN, () -> bench.read(0));
        Checks.due("place", 0, bench.count(2));
        Checks.due("broken", BROKEN, Checks.read(bench, 0, "a b."));
        Checks.due("tape", 0, bench.count(0));
        Checks.due("too many", BOUNDS, Checks.read(bench, 0, list("_", 201)));
        Checks.due("tape", 0, bench.count(0));
        Checks.due("r", ILLEGAL, Checks.read(bench, 8, "b."));
        Checks.due("tape", 2, bench.count(0));
        Checks.due("read of what stayed", 1, bench.read(7));
        Checks.due("register", "b", Checks.printed(bench, 7));
        Checks.breaks("a", 1);
        Checks.breaks("a. .", 3);
        Checks.breaks("a. a.", 3);
        Checks.reads("a. % .\n ", "a", 1);
        Checks.sentence("r 0 .. 7 (so for all registers)");
        for (int r = 0; r < 8; r++) {
            Checks.due("read " + r, 1, Checks.read(bench, r, "c" + r + "."));
        }
        for (int r = 0; r < 8; r++) {
            Checks.due("register " + r, "c" + r, Checks.printed(bench, r));
        }
        Checks.sentence("Answers how many SYMBOLS it has");
        Checks.reads("f(X,X,1,-1,a,[],[b|c],- (2)).", "f(_0,_0,1,-1,a,[],[b|c],-(2))", 12);
    }

    private static void readBroken() {
        Checks.sentence("Broken: UnsupportedOperationException, PLACE is told");
        UnifyBench bench = new UnifyBench();
        Checks.due("before", -1, bench.count(2));
        Checks.due("broken", BROKEN, Checks.read(bench, 0, "f(a,,b)."));
        Checks.due("place", 4, bench.count(2));
        bench.print(0);
        bench.mark();
        bench.undo();
        bench.reset();
        Checks.due("place stays", 4, bench.count(2));
        Checks.due("broken at 0", BROKEN, Checks.read(bench, 0, ",."));
        Checks.due("place", 0, bench.count(2));
        Checks.due("not broken", 1, Checks.read(bench, 0, "a."));
        Checks.due("place", -1, bench.count(2));
    }

    private static void readTooMuch() {
        Checks.sentence("more than 200 VARIABLES: IndexOutOfBoundsException");
        UnifyBench bench = Checks.bench("k(X).");
        Checks.due("broken", BROKEN, Checks.read(bench, 1, "a b."));
        Checks.due("200 more", BOUNDS, Checks.read(bench, 0, list("_", 200)));
        Checks.due("place of none", -1, bench.count(2));
        Checks.due("register stays", "k(_0)", Checks.printed(bench, 0));
        Checks.due("199 more", 399, Checks.read(bench, 0, list("_", 199)));
    }

    private static void readLeaves() {
        Checks.sentence("(What throws but for r leaves the REGISTER, and no VARIABLE of it is known.)");
        UnifyBench bench = Checks.bench("k(X).");
        for (int i = 0; i < 5; i++) {
            Checks.due("broken at the end", BROKEN, Checks.read(bench, 0, list("_", 199).replace("].", ",A" + i)));
            Checks.due("too many", BOUNDS, Checks.read(bench, 0, list("_", 199).replace("].", ",B" + i + "].")));
            Checks.due("too many symbols", BROKEN, Checks.read(bench, 0, "[" + Checks.repeated("a,", 500) + "C" + i + "]."));
            Checks.due("register", "k(_0)", Checks.printed(bench, 0));
        }
        Checks.due("199 others", 401, Checks.read(bench, 1, variables(1, 199).replace("[", "[X,")));
        Checks.due("X is that of before", "[_0]", readAgain(bench));
        // Names of what was refused are names as before when they come again.
        Checks.due("refused", BROKEN, Checks.read(bench, 2, "newname(othername b)."));
        Checks.read(bench, 2, "othername.");
        Checks.read(bench, 3, "newname.");
        Checks.due("not the same", false, bench.same(2, 3));
        Checks.due("othername", "othername", Checks.printed(bench, 2));
        Checks.due("newname", "newname", Checks.printed(bench, 3));
    }

    private static String readAgain(UnifyBench bench) {
        Checks.read(bench, 4, "X.");
        bench.part(5, 0, 1);
        Checks.due("the same X", true, bench.same(4, 5));
        Checks.read(bench, 5, "[X].");
        return Checks.printed(bench, 5);
    }

    private static void unifyOrStay() {
        Checks.sentence("Promise 5: Whether two REGISTERS can be UNIFIED: they are then; if not, all stays as it was");
        UnifyBench bench = Checks.bench("f(X,Y,Z,a).", "f(b,X,g(Y),c).", "f(b,X,g(Y),W).", "X.");
        Checks.due("not the last", false, bench.unify(0, 1));
        Checks.due("first", "f(_0,_1,_2,a)", Checks.printed(bench, 0));
        Checks.due("second", "f(b,_0,g(_1),c)", Checks.printed(bench, 1));
        Checks.due("bound", 0, bench.count(3));
        Checks.due("all", true, bench.unify(0, 2));
        Checks.due("first", "f(b,b,g(b),a)", Checks.printed(bench, 0));
        Checks.due("bound", 4, bench.count(3));
        Checks.due("not again", false, bench.unify(0, 1));
        Checks.due("as it was", "f(b,b,g(b),a)", Checks.printed(bench, 0));
        Checks.due("X", "b", Checks.printed(bench, 3));
        Checks.due("bound", 4, bench.count(3));
        for (int r = 0; r < 8; r++) {
            Checks.due("with itself", true, bench.unify(r, r));
        }
        for (int r : NO_REGISTERS) {
            Checks.due("unify " + r, ILLEGAL, () -> bench.unify(r, 0));
            Checks.due("unify .. " + r, ILLEGAL, () -> bench.unify(0, r));
        }
    }

    /** What was refused half way must not be gone on with by the next call. */
    private static void refusedIsForgotten() {
        Checks.sentence("if not, all stays as it was");
        UnifyBench bench = Checks.bench("f(a,X,Y).", "f(b,c,d).", "Z.", "Z.", "f(g(V),V,W).", "f(V,b,c).", "[X,Y,V,W].");
        for (int turn = 0; turn < 2; turn++) {
            Checks.due("not the first", false, bench.unify(turn, 1 - turn));
            Checks.due("one with itself", true, bench.unify(2, 3));
            Checks.due("none became anything", 0, bench.count(3));
            Checks.due("stands in itself", false, bench.unify(4 + turn, 5 - turn));
            Checks.due("one with itself", true, bench.unify(2, 3));
            Checks.due("none became anything", 0, bench.count(3));
            Checks.due("not the same", false, bench.same(turn, 1 - turn));
            Checks.due("the same", true, bench.same(2, 3));
            Checks.due("one with itself", true, bench.unify(2, 3));
            Checks.due("none became anything", 0, bench.count(3));
            Checks.due("all of them", "[_0,_1,_2,_3]", Checks.printed(bench, 6));
        }
    }

    private static void sameAsTheyAre() {
        Checks.sentence("Promise 6: Whether they are the same as they are (VARIABLES: the same one)");
        UnifyBench bench = Checks.bench("X.", "Y.", "f(X).", "f(Y).", "f(a).", "a.", "X.");
        Checks.due("X and X", true, bench.same(0, 6));
        Checks.due("X and Y", false, bench.same(0, 1));
        Checks.due("f(X) and f(Y)", false, bench.same(2, 3));
        Checks.due("f(X) and f(a)", false, bench.same(2, 4));
        Checks.due("f(a) and f(X)", false, bench.same(4, 2));
        Checks.due("X and a", false, bench.same(0, 5));
        Checks.due("nothing became", 0, bench.count(3));
        bench.unify(0, 1);
        Checks.due("made the same", true, bench.same(2, 3));
        bench.unify(1, 5);
        Checks.due("made a", true, bench.same(2, 4));
        Checks.due("made a", true, bench.same(6, 5));
        for (int r : NO_REGISTERS) {
            Checks.due("same " + r, ILLEGAL, () -> bench.same(r, 0));
            Checks.due("same .. " + r, ILLEGAL, () -> bench.same(0, r));
        }
    }

    private static void partsFromOne() {
        Checks.sentence("Promise 7: i 1 or more. TERM i, from 1, of the COMPOUND in REGISTER a; it is none, or has none");
        UnifyBench bench = Checks.bench("f(1,2,3,4,5,6,7,8).", "g(X).", "a.", "1.", "V.", "[].", "X.");
        for (int i = 1; i <= 8; i++) {
            Checks.due("part " + i, "" + i, part(bench, 7, 0, i));
        }
        for (int i : new int[] {9, 10, 100, Integer.MAX_VALUE}) {
            Checks.due("part " + i, NONE, part(bench, 7, 0, i));
            Checks.due("part " + i + " of one", NONE, part(bench, 7, 1, i));
        }
        Checks.due("part 2 of one", NONE, part(bench, 7, 1, 2));
        for (int i : new int[] {0, -1, Integer.MIN_VALUE}) {
            Checks.due("part " + i, ILLEGAL, part(bench, 7, 0, i));
            Checks.due("part " + i + " of none", ILLEGAL, part(bench, 7, 2, i));
        }
        for (int a = 2; a <= 5; a++) {
            Checks.due("of none", NONE, part(bench, 7, a, 1));
        }
        Checks.due("register stays", "8", Checks.printed(bench, 7));
        Checks.due("a variable", "_0", part(bench, 7, 1, 1));
        Checks.due("that one", true, bench.same(7, 6));
        bench.unify(4, 0);
        Checks.due("of what a variable became", "8", part(bench, 7, 4, 8));
        Checks.due("to itself", "3", part(bench, 0, 0, 3));
        Checks.due("whose is still whole", "f(1,2,3,4,5,6,7,8)", Checks.printed(bench, 4));
    }

    private static void thirtyMarks() {
        Checks.sentence("Promise 8: more than 30: IndexOutOfBoundsException. Answers how many there are");
        UnifyBench bench = new UnifyBench();
        for (int turn = 0; turn < 2; turn++) {
            for (int i = 1; i <= 30; i++) {
                Checks.due("mark " + i, i, bench.mark());
            }
            Checks.due("mark 31", BOUNDS, () -> bench.mark());
            Checks.due("mark 31 again", BOUNDS, () -> bench.mark());
            Checks.due("undo", 29, bench.undo());
            Checks.due("mark 30", 30, bench.mark());
            Checks.due("mark 31", BOUNDS, () -> bench.mark());
            bench.reset();
        }
    }

    private static void undoToTheMark() {
        Checks.sentence("Promise 9: VARIABLES and REGISTERS are as they were at the latest MARK, which goes."
                + " Answers how many there are");
        UnifyBench bench = Checks.bench("X.", "Y.", "a.", "f(X,Y).");
        bench.mark();
        bench.unify(0, 1);
        bench.mark();
        bench.unify(0, 2);
        bench.part(7, 3, 1);
        Checks.read(bench, 0, "b.");
        bench.mark();
        Checks.read(bench, 3, "c.");
        Checks.due("undo 3", 2, bench.undo());
        Checks.due("register 3", "f(a,a)", Checks.printed(bench, 3));
        Checks.due("register 7", "a", Checks.printed(bench, 7));
        Checks.due("register 0", "b", Checks.printed(bench, 0));
        Checks.due("undo 2", 1, bench.undo());
        Checks.due("register 3", "f(_0,_0)", Checks.printed(bench, 3));
        Checks.due("register 7", "[]", Checks.printed(bench, 7));
        Checks.due("register 0", "_0", Checks.printed(bench, 0));
        Checks.due("bound", 1, bench.count(3));
        Checks.due("undo 1", 0, bench.undo());
        Checks.due("register 3", "f(_0,_1)", Checks.printed(bench, 3));
        Checks.due("bound", 0, bench.count(3));
        Checks.sentence("A MARK is made of what VARIABLES became and REGISTERS hold so far");
        bench.unify(0, 2);
        bench.mark();
        bench.unify(1, 2);
        Checks.due("undo", 0, bench.undo());
        Checks.due("what X became before stays", "f(a,_0)", Checks.printed(bench, 3));
        bench.mark();
        Checks.load(bench, "p q.");
        Checks.due("broken", BROKEN, () -> bench.read(0));
        Checks.load(bench, "rest");
        bench.print(3);
        bench.undo();
        Checks.due("tape is no part of it", 4, bench.count(0));
        Checks.due("nor the place", 2, bench.count(2));
        Checks.due("nor the result", "f(a,_0)", Checks.result(bench));
    }

    private static void undoKeepsVariables() {
        Checks.sentence("(VARIABLES that came behind it are known still, and became nothing;)");
        UnifyBench bench = new UnifyBench();
        bench.mark();
        Checks.read(bench, 0, "[N," + list("_", 198).substring(1).replace("].", ",M]."));
        Checks.read(bench, 1, "N.");
        Checks.read(bench, 2, "a.");
        bench.unify(1, 2);
        Checks.due("bound", 1, bench.count(3));
        bench.undo();
        Checks.due("became nothing", 0, bench.count(3));
        Checks.due("they count", BOUNDS, Checks.read(bench, 0, "K."));
        Checks.due("they are known", 5, Checks.read(bench, 0, "[N,M]."));
        Checks.due("became nothing", "[_0,_1]", Checks.printed(bench, 0));
    }

    private static void undoOfNone() {
        Checks.sentence("there is none: NoSuchElementException");
        UnifyBench bench = Checks.bench("X.", "a.");
        Checks.due("at first", NONE, () -> bench.undo());
        bench.unify(0, 1);
        Checks.due("none was made", NONE, () -> bench.undo());
        Checks.due("X", "a", Checks.printed(bench, 0));
        bench.mark();
        bench.undo();
        Checks.due("it is gone", NONE, () -> bench.undo());
        bench.mark();
        bench.reset();
        Checks.due("behind a reset", NONE, () -> bench.undo());
    }

    private static void resetAll() {
        Checks.sentence("Promise 10: All REGISTERS are [], there are no VARIABLES, no MARKS");
        UnifyBench bench = new UnifyBench();
        bench.reset();
        for (int turn = 0; turn < 3; turn++) {
            for (int r = 0; r < 8; r++) {
                Checks.due("register " + r, "[]", Checks.printed(bench, r));
            }
            Checks.due("bound", 0, bench.count(3));
            Checks.due("no marks", NONE, () -> bench.undo());
            Checks.due("200 variables", 401, Checks.read(bench, 0, variables(1, 200)));
            Checks.due("none became anything", 0, bench.count(3));
            Checks.read(bench, 1, variables(2, 200).replace("].", ",end" + turn + "]."));
            Checks.due("marks", 1, bench.mark());
            Checks.due("unified", true, bench.unify(0, 1));
            Checks.due("bound", 200, bench.count(3));
            Checks.due("marks", 2, bench.mark());
            for (int r = 2; r < 8; r++) {
                bench.part(r, 0, 1);
            }
            Checks.due("register 7", "end" + turn, Checks.printed(bench, 7));
            bench.reset();
            Checks.due("200 others", 401, Checks.read(bench, 0, list("_", 200)));
            bench.reset();
            Checks.due("200 names more", 401, Checks.read(bench, 0, variables(301, 500)));
            bench.reset();
        }
    }

    private static void resetLeaves() {
        Checks.sentence("(TAPE, RESULT and PLACE stay.)");
        UnifyBench bench = Checks.bench("f(X).");
        bench.print(0);
        Checks.read(bench, 1, "abc d.");
        Checks.load(bench, "g(X,X).");
        bench.reset();
        Checks.due("tape", 7, bench.count(0));
        Checks.due("result", "f(_0)", Checks.result(bench));
        Checks.due("place", 4, bench.count(2));
        Checks.due("read", 3, bench.read(0));
        Checks.due("what was on the tape", "g(_0,_0)", Checks.printed(bench, 0));
    }

    private static void resultAtMost() {
        Checks.sentence("THE RESULT has at most 4096 bytes; Promise 11: more than 4096 bytes: IndexOutOfBoundsException");
        for (int length = 4090; length <= 4100; length++) {
            UnifyBench bench = Checks.bench("kept.", "[X,Y].", "X.", Checks.repeated("a", 3000) + ".", "Y.",
                    "'" + Checks.repeated("B", length - 3005) + "'.");
            bench.unify(2, 3);
            bench.unify(4, 5);
            bench.print(0);
            Checks.due("print of " + length, length <= 4096 ? length : BOUNDS, () -> bench.print(1));
            String printed = "[" + Checks.repeated("a", 3000) + ",'" + Checks.repeated("B", length - 3005) + "']";
            Checks.due("result of " + length, length <= 4096 ? printed : "kept", Checks.result(bench));
            Checks.due("count of " + length, length <= 4096 ? length : 4, bench.count(1));
        }
        Checks.due("one byte", 1, Checks.bench("a.").print(0));
        UnifyBench quotes = Checks.bench("'" + Checks.repeated("''", 2046) + "'.", "f(X).", "X.");
        Checks.due("4094 with quotes", 4094, quotes.print(0));
        quotes.unify(0, 2);
        Checks.due("4097 with f( )", BOUNDS, () -> quotes.print(1));
    }

    private static void words() {
        Checks.sentence("Promise 12: 8 bytes of THE RESULT from i on, the highest first, zeros behind its end;"
                + " i is none of its bytes: IndexOutOfBoundsException");
        UnifyBench bench = Checks.bench("abcdefgh.", "[].", "X.", LONGEST + ".");
        Checks.due("before a print", BOUNDS, () -> bench.word(0));
        bench.print(0);
        long word = 0x6162636465666768L;
        for (int i = 0; i < 8; i++) {
            Checks.due("word " + i, word << 8 * i, bench.word(i));
        }
        for (int i : new int[] {8, 9, 4096, Integer.MAX_VALUE - 7, Integer.MAX_VALUE, -1, -8, Integer.MIN_VALUE}) {
            Checks.due("word " + i, BOUNDS, () -> bench.word(i));
        }
        bench.print(1);
        Checks.due("a shorter one", 0x5b5d000000000000L, bench.word(0));
        Checks.due("its last", 0x5d00000000000000L, bench.word(1));
        Checks.due("none of its bytes", BOUNDS, () -> bench.word(2));
        bench.print(3);
        Checks.due("the last of 4095", 0x6100000000000000L, bench.word(4094));
        Checks.due("none of 4095", BOUNDS, () -> bench.word(4095));
        bench.reset();
        Checks.due("behind reset", 0x6100000000000000L, bench.word(4094));
    }

    private static void counts() {
        Checks.sentence("Promise 13: what 0 .. 3; 0, 1 bytes of the TAPE, of THE RESULT");
        UnifyBench bench = new UnifyBench();
        for (int what : new int[] {-1, 4, 5, Integer.MIN_VALUE, Integer.MAX_VALUE}) {
            Checks.due("count " + what, ILLEGAL, () -> bench.count(what));
        }
        Checks.due("new", "0 0 -1 0", bench.count(0) + " " + bench.count(1) + " " + bench.count(2) + " " + bench.count(3));
        filled(bench, 4076);
        bench.feed(0, 0, 0, 0, 0);
        Checks.due("a full tape", 4096, bench.count(0));
        bench.print(0);
        Checks.due("the result", 2, bench.count(1));
        Checks.sentence("2 PLACE of the latest read, -1 if it told none, or before");
        Checks.due("before", -1, bench.count(2));
        Checks.due("broken", BROKEN, () -> bench.read(0));
        Checks.due("told", 4076, bench.count(2));
        Checks.read(bench, 0, "a.");
        Checks.due("told none", -1, bench.count(2));
        Checks.due("broken", BROKEN, Checks.read(bench, 0, "a"));
        Checks.due("told", 1, bench.count(2));
        Checks.due("too many", BOUNDS, Checks.read(bench, 0, list("_", 201)));
        Checks.due("told none", -1, bench.count(2));
    }

    private static void countsBound() {
        Checks.sentence("3 VARIABLES that became something. (Of two that were made the same one became the other.)");
        UnifyBench bench = Checks.bench("f(X,Y,Z,W).", "f(Y,Z,X,W).", "g(X,W).", "g(a,a).", "X.");
        Checks.due("none", 0, bench.count(3));
        bench.unify(4, 4);
        Checks.due("one with itself", 0, bench.count(3));
        bench.unify(0, 1);
        Checks.due("three made one", 2, bench.count(3));
        bench.unify(1, 0);
        Checks.due("again", 2, bench.count(3));
        bench.unify(2, 3);
        Checks.due("all became a", 4, bench.count(3));
        bench.reset();
        Checks.due("behind reset", 0, bench.count(3));
        Checks.read(bench, 0, variables(1, 200));
        Checks.read(bench, 1, variables(2, 200).replace("].", ",V1]."));
        Checks.due("round", true, bench.unify(0, 1));
        Checks.due("200 made one", 199, bench.count(3));
    }

    /** 512 calls, of which the last ones must answer as well as the first. */
    private static void fullRun() {
        Checks.sentence("An object is used for at most 512 calls after it has been made");
        UnifyBench bench = new UnifyBench();
        int calls = 0;
        for (int i = 1; calls + 5 <= 512; i++) {
            bench.feed(0x5b612c62, 0x2c632c64, 0x2c652c66, 0x2c672c68, 0x5d2e2020);
            Checks.due("read " + i, 17, bench.read(i % 8));
            Checks.due("same " + i, i >= 8, bench.same(i % 8, (i + 1) % 8));
            Checks.due("print " + i, 17, bench.print(i % 8));
            Checks.due("word " + i, 0x5b612c622c632c64L, bench.word(0));
            calls += 5;
        }
        Checks.due("call 511", true, bench.unify(0, 7));
        Checks.due("call 512", 0, bench.count(3));
    }
}
