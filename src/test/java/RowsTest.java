import java.util.ArrayList;
import java.util.HashMap;
import java.util.List;
import java.util.Map;

/**
 * Every row of up to four signs. No answer is written down here; it is looked whether the answers fit one another: the
 * place to what could have been read there, what is printed to what it is read as, blanks and comments to one another.
 */
public final class RowsTest {
    private static final String[] SIGNS = {"a", "X", "1", "-1", "-", "\\+", "=", "+", ":-", "mod", ",", "','", "|", "(", ")",
        "[", "]", "[]", "f(", "-(", "=(", "{", "}", "'x y'", "."};
    private static final String[] MORE = {"a", "-", "=", "+", ",", "|", ":-", "\\+", "(", "f("};
    private static final int LONGEST = 4;
    private static final int READ = -1;
    // Each takes a few calls, and an object is good for 512.
    private static final int READS_OF_A_BENCH = 30;

    private static UnifyBench bench = new UnifyBench();
    private static int reads = 0;
    private static final Map<List<String>, Boolean> COMPLETED = new HashMap<>();

    private RowsTest() {
    }

    public static void main(String[] args) {
        rows(new ArrayList<>());
        Checks.close("RowsTest");
    }

    private static void rows(List<String> row) {
        int broken = brokenSign(row, " ");
        if (broken == READ) {
            isReadAsPrinted(row);
        }
        if (broken == READ || broken < row.size()) {
            isParted(row, broken);
        }
        if (broken != READ && broken < row.size()) {
            // All longer rows are broken there, too.
            isFirstThatCannotStand(row, broken);
            return;
        }
        for (int i = 0; i < SIGNS.length && row.size() < LONGEST; i++) {
            rows(with(row, SIGNS[i]));
        }
    }

    private static void isFirstThatCannotStand(List<String> row, int broken) {
        Checks.sentence("broken at the PLACE (from 0) of the first sign that can't stand there");
        Checks.due("what stands before sign " + broken + " of " + row + " can be completed", true,
                canBeCompleted(row.subList(0, broken), 2));
        Checks.due("with sign " + broken + " of " + row + " it can't be", false, canBeCompleted(row.subList(0, broken + 1), 1));
    }

    /** Whether the row can be made a term by closing all that is open, behind some signs more. */
    private static boolean canBeCompleted(List<String> row, int more) {
        Boolean known = more == 2 ? COMPLETED.get(row) : null;
        if (known != null) {
            return known;
        }
        boolean can = isRead(row) || isRead(closed(row)) || isRead(closed(with(row, "a")));
        for (int i = 0; i < MORE.length && more > 0 && !can; i++) {
            can = canBeCompleted(with(row, MORE[i]), more - 1);
        }
        if (more == 2) {
            COMPLETED.put(List.copyOf(row), can);
        }
        return can;
    }

    private static boolean isRead(List<String> row) {
        return brokenSign(row, " ") == READ;
    }

    private static List<String> with(List<String> row, String sign) {
        List<String> longer = new ArrayList<>(row);
        longer.add(sign);
        return longer;
    }

    private static List<String> closed(List<String> row) {
        List<String> closing = new ArrayList<>();
        for (String sign : row) {
            if (sign.endsWith("(")) {
                closing.add(0, ")");
            } else if (sign.equals("[")) {
                closing.add(0, "]");
            } else if (!closing.isEmpty() && closing.get(0).equals(sign)) {
                closing.remove(0);
            }
        }
        List<String> closed = new ArrayList<>(row);
        closed.addAll(closing);
        closed.add(".");
        return closed;
    }

    private static void isReadAsPrinted(List<String> row) {
        Checks.sentence("ATOMS and NAMES as they are, if they could be read so as one sign");
        String printed = Checks.printed(bench, 0);
        Checks.due("symbols of " + printed + " printed of " + row, Checks.read(bench, 1, String.join(" ", row)),
                Checks.read(bench, 2, printed + " ."));
        Checks.due("print of " + printed, printed, Checks.printed(bench, 2));
        Checks.due("the same: " + printed + " and " + row, !printed.contains("_"), bench.same(0, 2));
        Checks.due("made the same: " + printed + " and " + row, true, bench.unify(0, 2));
    }

    private static void isParted(List<String> row, int broken) {
        Checks.sentence("SIGNS, with blanks (9, 10, 13, 32) or comments (% up to 10 or the end) before them");
        for (String parting : new String[] {"\t", "\n", "\r", "%(\n", " %'a.\n\n"}) {
            Checks.due("broken sign of " + row + " parted by others", broken, brokenSign(row, parting));
        }
    }

    /** Reads the row into register 0. Answers which sign it is broken at, the row's size for the end, or READ. */
    private static int brokenSign(List<String> row, String parting) {
        reads++;
        if (reads % READS_OF_A_BENCH == 0) {
            bench = new UnifyBench();
        }
        Checks.load(bench, String.join(parting, row) + parting);
        int length = bench.count(0);
        try {
            bench.read(0);
            return READ;
        } catch (UnsupportedOperationException e) {
            return signAt(row, parting, bench.count(2), length);
        }
    }

    private static int signAt(List<String> row, String parting, int place, int length) {
        int at = 0;
        for (int i = 0; i < row.size(); i++) {
            if (at == place) {
                return i;
            }
            at += row.get(i).length() + parting.length();
        }
        Checks.due("place in " + row, length, place);
        return row.size();
    }
}
