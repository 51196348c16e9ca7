import java.lang.reflect.Member;
import java.lang.reflect.Modifier;
import java.util.Arrays;
import java.util.List;
import java.util.TreeSet;
import java.util.stream.Stream;

/** The public face is the document's and nothing else; and an object used beyond its 512 calls stays an object. */
public final class FaceTest {
    private static final List<String> FACE = List.of(
            "public int UnifyBench.feed(int,int,int,int,int) throws java.lang.IndexOutOfBoundsException",
            "public int UnifyBench.end(int) throws java.lang.IllegalArgumentException",
            "public int UnifyBench.read(int) throws java.lang.IllegalArgumentException,"
                    + "java.lang.UnsupportedOperationException,java.lang.IndexOutOfBoundsException",
            "public boolean UnifyBench.unify(int,int) throws java.lang.IllegalArgumentException",
            "public boolean UnifyBench.same(int,int) throws java.lang.IllegalArgumentException",
            "public void UnifyBench.part(int,int,int) throws java.lang.IllegalArgumentException,"
                    + "java.util.NoSuchElementException",
            "public int UnifyBench.mark() throws java.lang.IndexOutOfBoundsException",
            "public int UnifyBench.undo() throws java.util.NoSuchElementException",
            "public void UnifyBench.reset()",
            "public int UnifyBench.print(int) throws java.lang.IllegalArgumentException,"
                    + "java.lang.IndexOutOfBoundsException",
            "public long UnifyBench.word(int) throws java.lang.IndexOutOfBoundsException",
            "public int UnifyBench.count(int) throws java.lang.IllegalArgumentException");

    private FaceTest() {
    }

    public static void main(String[] args) {
        TreeSet<String> methods = new TreeSet<>();
        visible(UnifyBench.class.getDeclaredMethods()).forEach(m -> methods.add(m.toString()));
        Checks.due("methods", new TreeSet<>(FACE), methods);
        Checks.due("constructors", List.of("public UnifyBench()"),
                visible(UnifyBench.class.getDeclaredConstructors()).map(Object::toString).toList());
        Checks.due("fields", 0L, visible(UnifyBench.class.getDeclaredFields()).count());
        Checks.due("final", true, Modifier.isFinal(UnifyBench.class.getModifiers()));
        beyondItsCalls();
        Checks.close("FaceTest");
    }

    private static Stream<Member> visible(Member[] members) {
        return Arrays.stream(members).filter(m -> !Modifier.isPrivate(m.getModifiers()));
    }

    /** 400000 symbols can't come in 512 calls; the limit holds all the same. */
    private static void beyondItsCalls() {
        Checks.sentence("400000 SYMBOLS of all TERMS since the beginning or the latest reset: IndexOutOfBoundsException");
        UnifyBench bench = new UnifyBench();
        String list = "[" + Checks.repeated("a,", 498) + "a|-a]";
        for (int turn = 0; turn < 2; turn++) {
            for (int i = 0; i < 399; i++) {
                Checks.due("read " + i, 1000, Checks.read(bench, i % 8, list + "."));
            }
            Checks.due("broken ones do not count", "throws.UnsupportedOperationException", Checks.read(bench, 0, list + ")."));
            Checks.due("to 399999", 999, Checks.read(bench, 1, list.replace("-a", "a") + "."));
            Checks.due("to 400001", "throws.IndexOutOfBoundsException", Checks.read(bench, 0, "-a."));
            Checks.due("no place", -1, bench.count(2));
            Checks.due("to 400000", 1, Checks.read(bench, 0, "b."));
            Checks.due("to 400001", "throws.IndexOutOfBoundsException", Checks.read(bench, 0, "c."));
            Checks.due("register stays", "b", Checks.printed(bench, 0));
            Checks.due("the same", true, bench.same(2, 7));
            Checks.due("another", false, bench.same(1, 7));
            bench.reset();
        }
    }
}
