import java.util.ArrayList;
import java.util.HashMap;
import java.util.List;
import java.util.Map;

/** The document once more, for small terms alone: trees, recursion and the Java library, nothing shared. */
final class Model {
    /** Where a text is broken. */
    static final class Broken extends RuntimeException {
        private static final long serialVersionUID = 1L;
        final int place;

        Broken(int place) {
            this.place = place;
        }
    }

    /** A variable has no text, an integer a number, all others a text and parts. */
    record Term(Integer variable, Long number, String text, List<Term> parts) {
    }

    private record Sign(char kind, String text, int place, int end) {
    }

    private record Saved(Map<Integer, Term> became, Term[] registers) {
    }

    private static final Map<String, int[]> SIDES = new HashMap<>();
    private static final Map<String, Integer> PREFIXES = Map.of("-", 200, "\\+", 900);

    static {
        sides(1200, 1199, 1199, ":-");
        sides(1100, 1099, 1100, ";");
        sides(1050, 1049, 1050, "->");
        sides(1000, 999, 1000, ",");
        sides(700, 699, 699, "=", "\\=", "==", "\\==", "is", "<", ">", "=<", ">=", "=:=", "=\\=");
        sides(500, 500, 499, "+", "-");
        sides(400, 400, 399, "*", "//", "mod", "rem");
    }

    private static void sides(int level, int left, int right, String... texts) {
        for (String text : texts) {
            SIDES.put(text, new int[] {level, left, right});
        }
    }

    private static final Term EMPTY = new Term(null, null, "[]", List.of());

    final Term[] registers = new Term[8];
    private final List<String> variables = new ArrayList<>();
    private Map<Integer, Term> became = new HashMap<>();
    private final List<Saved> marks = new ArrayList<>();
    int place = -1;

    Model() {
        reset();
    }

    void reset() {
        java.util.Arrays.fill(registers, EMPTY);
        variables.clear();
        became.clear();
        marks.clear();
    }

    Object read(int r, String text) {
        List<String> before = new ArrayList<>(variables);
        place = -1;
        try {
            signs = signsOf(text);
            next = 0;
            Term term = term(1200, 1);
            take('.');
            if (look().kind != 'E') {
                throw new Broken(look().place);
            }
            int symbols = symbols(term);
            if (symbols > 1000) {
                throw new Broken(signs.get(0).place);
            }
            if (variables.size() > 200) {
                variables.clear();
                variables.addAll(before);
                return "throws.IndexOutOfBoundsException";
            }
            registers[r] = term;
            return symbols;
        } catch (Broken broken) {
            place = broken.place;
            variables.clear();
            variables.addAll(before);
            return "throws.UnsupportedOperationException";
        }
    }

    private static int symbols(Term term) {
        int symbols = 1;
        if (term.parts != null) {
            for (Term part : term.parts) {
                symbols += symbols(part);
            }
        }
        return symbols;
    }

    // Signs: V variable, I integer, N name, . the end of a term, E the end of the tape, ? none, else the mark itself.

    private List<Sign> signs = new ArrayList<>();
    private int next = 0;

    private static final java.util.regex.Pattern SIGN = java.util.regex.Pattern.compile(
            "(?<V>[A-Z_][A-Za-z0-9_]*)|(?<I>[0-9]+)|(?<N>[a-z][A-Za-z0-9_]*|\\[\\]|[!;])|'(?<Q>(?:[ -&(-~]|'')*+)'"
                    + "|(?<S>[-+*/\\\\^<>=~:.?@#&$]+)|(?<M>[\\[\\](){},|])");
    private static final java.util.regex.Pattern BLANKS = java.util.regex.Pattern.compile("(?:[\\t\\n\\r ]|%[^\\n]*)*");

    private static List<Sign> signsOf(String text) {
        List<Sign> all = new ArrayList<>();
        int at = 0;
        while (true) {
            var blanks = BLANKS.matcher(text).region(at, text.length());
            blanks.lookingAt();
            at = blanks.end();
            if (at == text.length()) {
                all.add(new Sign('E', "", at, at));
                return all;
            }
            var sign = SIGN.matcher(text).region(at, text.length());
            if (!sign.lookingAt()) {
                all.add(new Sign('?', "", at, at));
                return all;
            }
            all.add(signOf(sign, text));
            at = sign.end();
        }
    }

    private static Sign signOf(java.util.regex.Matcher sign, String text) {
        int from = sign.start();
        int to = sign.end();
        if (sign.group("V") != null) {
            return new Sign('V', sign.group(), from, to);
        }
        if (sign.group("I") != null) {
            boolean fits = new java.math.BigInteger(sign.group()).bitLength() <= 53;
            return new Sign(fits ? 'I' : '?', sign.group(), from, to);
        }
        if (sign.group("Q") != null) {
            String inner = sign.group("Q").replace("''", "'");
            return new Sign('N', inner.equals(",") ? "quoted," : inner, from, to);
        }
        if (sign.group("M") != null) {
            return new Sign(sign.group().charAt(0), sign.group(), from, to);
        }
        boolean ends = to == text.length() || "\t\n\r %".indexOf(text.charAt(to)) >= 0;
        return new Sign(sign.group().equals(".") && ends ? '.' : 'N', sign.group(), from, to);
    }

    private Sign look() {
        return signs.get(next);
    }

    private Sign take(char kind) {
        Sign sign = look();
        if (sign.kind != kind) {
            throw new Broken(sign.place);
        }
        next++;
        return sign;
    }

    private boolean takeIf(char kind) {
        boolean is = look().kind == kind;
        if (is) {
            next++;
        }
        return is;
    }

    private int lastLevel = 0;

    private Term term(int most, int depth) {
        if (depth > 100) {
            throw new Broken(look().place);
        }
        lastLevel = 0;
        Term left = beginning(most, depth);
        int level = lastLevel;
        while (true) {
            int[] sides = look().kind == 'N' || look().kind == ',' ? SIDES.get(look().text) : null;
            if (sides == null || sides[0] > most || level > sides[1]) {
                return left;
            }
            String text = look().text;
            next++;
            left = compound(text, left, term(sides[2], depth + 1));
            level = sides[0];
            lastLevel = level;
        }
    }

    private Term beginning(int most, int depth) {
        Sign sign = look();
        switch (sign.kind) {
            case 'V':
                next++;
                return variable(sign.text);
            case 'I':
                next++;
                return new Term(null, Long.valueOf(sign.text), null, null);
            case '(':
                next++;
                Term inner = term(1200, depth + 1);
                take(')');
                lastLevel = 0;
                return inner;
            case '[':
                next++;
                return list(depth);
            case 'N':
                next++;
                return named(sign, most, depth);
            default:
                throw new Broken(sign.place);
        }
    }

    private Term variable(String name) {
        int known = variables.indexOf(name);
        if (name.equals("_") || known < 0) {
            variables.add(name);
            known = variables.size() - 1;
        }
        return new Term(known, null, null, null);
    }

    private Term list(int depth) {
        List<Term> items = new ArrayList<>();
        do {
            items.add(term(999, depth + 1));
        } while (takeIf(','));
        Term list = takeIf('|') ? term(999, depth + 1) : EMPTY;
        take(']');
        for (int i = items.size() - 1; i >= 0; i--) {
            list = compound(".", items.get(i), list);
        }
        lastLevel = 0;
        return list;
    }

    private Term named(Sign name, int most, int depth) {
        Sign behind = look();
        boolean near = behind.place == name.end;
        if (near && behind.kind == '(') {
            next++;
            return compound(name.text, parts(depth).toArray(new Term[0]));
        }
        if (near && behind.kind == 'I' && name.text.equals("-")) {
            next++;
            return new Term(null, -Long.valueOf(behind.text), null, null);
        }
        Integer prefix = PREFIXES.get(name.text);
        if (prefix != null && prefix <= most && canBegin(behind)) {
            Term operand = term(prefix, depth + 1);
            lastLevel = prefix;
            return compound(name.text, operand);
        }
        return compound(name.text);
    }

    private List<Term> parts(int depth) {
        List<Term> parts = new ArrayList<>();
        do {
            if (parts.size() == 8) {
                throw new Broken(look().place);
            }
            parts.add(term(999, depth + 1));
        } while (takeIf(','));
        take(')');
        lastLevel = 0;
        return parts;
    }

    private static boolean canBegin(Sign sign) {
        if (sign.kind == 'N') {
            return !SIDES.containsKey(sign.text) || PREFIXES.containsKey(sign.text);
        }
        return ")]},|.".indexOf(sign.kind) < 0;
    }

    private static Term compound(String text, Term... parts) {
        return new Term(null, null, text.equals("quoted,") ? "," : text, List.of(parts));
    }

    // Unifying, as it stands in the document.

    private Term meant(Term term) {
        Term at = term;
        while (at.variable != null && became.containsKey(at.variable)) {
            at = became.get(at.variable);
        }
        return at;
    }

    boolean unify(int a, int b) {
        Map<Integer, Term> before = new HashMap<>(became);
        boolean can = unified(registers[a], registers[b]);
        if (!can) {
            became = before;
        }
        return can;
    }

    private boolean unified(Term a, Term b) {
        Term left = meant(a);
        Term right = meant(b);
        if (left.variable != null && left.variable.equals(right.variable)) {
            return true;
        }
        if (left.variable != null || right.variable != null) {
            Term variable = left.variable != null ? left : right;
            Term other = left.variable != null ? right : left;
            boolean can = !standsIn(variable.variable, other);
            if (can) {
                became.put(variable.variable, other);
            }
            return can;
        }
        if (!alike(left, right)) {
            return false;
        }
        for (int i = 0; left.parts != null && i < left.parts.size(); i++) {
            if (!unified(left.parts.get(i), right.parts.get(i))) {
                return false;
            }
        }
        return true;
    }

    private boolean standsIn(Integer variable, Term term) {
        Term meant = meant(term);
        if (variable.equals(meant.variable)) {
            return true;
        }
        return meant.parts != null && meant.parts.stream().anyMatch(part -> standsIn(variable, part));
    }

    private static boolean alike(Term a, Term b) {
        if (a.number != null || b.number != null) {
            return a.number != null && a.number.equals(b.number);
        }
        return a.text.equals(b.text) && a.parts.size() == b.parts.size();
    }

    boolean same(int a, int b) {
        return whole(registers[a]).equals(whole(registers[b]));
    }

    private Term whole(Term term) {
        Term meant = meant(term);
        return meant.parts == null ? meant : compound(meant.text, meant.parts.stream().map(this::whole).toArray(Term[]::new));
    }

    Object part(int to, int a, int i) {
        Term meant = meant(registers[a]);
        if (meant.parts == null || meant.parts.size() < i) {
            return "throws.NoSuchElementException";
        }
        registers[to] = meant.parts.get(i - 1);
        return "";
    }

    Object mark() {
        if (marks.size() == 30) {
            return "throws.IndexOutOfBoundsException";
        }
        marks.add(new Saved(new HashMap<>(became), registers.clone()));
        return marks.size();
    }

    Object undo() {
        if (marks.isEmpty()) {
            return "throws.NoSuchElementException";
        }
        Saved saved = marks.remove(marks.size() - 1);
        became = saved.became;
        System.arraycopy(saved.registers, 0, registers, 0, 8);
        return marks.size();
    }

    int bound() {
        return became.size();
    }

    // Printing.

    String printed(int r) {
        StringBuilder out = new StringBuilder();
        print(registers[r], out, new ArrayList<>());
        return out.length() > 4096 ? "throws.IndexOutOfBoundsException" : out.toString();
    }

    private void print(Term term, StringBuilder out, List<Integer> seen) {
        Term meant = meant(term);
        if (out.length() > 4096) {
            return;
        }
        if (meant.variable != null) {
            if (!seen.contains(meant.variable)) {
                seen.add(meant.variable);
            }
            out.append("_").append(seen.indexOf(meant.variable));
        } else if (meant.number != null) {
            out.append(meant.number);
        } else if (isCell(meant)) {
            printList(meant, out, seen);
        } else {
            out.append(shown(meant.text));
            String before = "(";
            for (Term part : meant.parts) {
                out.append(before);
                print(part, out, seen);
                before = ",";
            }
            out.append(meant.parts.isEmpty() ? "" : ")");
        }
    }

    private static boolean isCell(Term term) {
        return term.parts != null && term.parts.size() == 2 && term.text.equals(".");
    }

    private void printList(Term list, StringBuilder out, List<Integer> seen) {
        Term at = list;
        String before = "[";
        while (isCell(at)) {
            out.append(before);
            print(at.parts.get(0), out, seen);
            at = meant(at.parts.get(1));
            before = ",";
        }
        if (!at.equals(EMPTY)) {
            out.append("|");
            print(at, out, seen);
        }
        out.append("]");
    }

    private static String shown(String text) {
        boolean plain = text.matches("[a-z][A-Za-z0-9_]*|\\[\\]|[!;]|[-+*/\\\\^<>=~:.?@#&$]+") && !text.equals(".");
        return plain ? text : "'" + text.replace("'", "''") + "'";
    }
}
