import java.util.ArrayList;
import java.util.List;

/** The edges that the section "Terms" names for what is read from signs, a sentence at a time. */
public final class GrammarEdgesTest {
    private static final String[] TABLE = {"1200 xfx :-", "1100 xfy ;", "1050 xfy ->", "1000 xfy ,",
        "700 xfx = \\= == \\== is < > =< >= =:= =\\=", "500 yfx + -", "400 yfx * // mod rem"};
    private static final Prefix[] PREFIXES = {new Prefix("\\+", 900), new Prefix("-", 200)};
    private static final List<Sides> OPERATORS = operators();

    /** An operator of two sides, and the greatest n of what stands left and right of it. */
    private record Sides(String text, int level, int left, int right) {
        boolean isPrefixToo() {
            return text.equals("-");
        }

        boolean isComma() {
            return text.equals(",");
        }

        String of(String a, String b) {
            return (isComma() ? "','" : text) + "(" + a + "," + b + ")";
        }
    }

    private record Prefix(String text, int level) {
        String of(String a) {
            return text + "(" + a + ")";
        }
    }

    private GrammarEdgesTest() {
    }

    public static void main(String[] args) {
        oneToEightTerms();
        lists();
        termIs1200();
        innerTermsAre999();
        belowZero();
        sidesOfOperators();
        sidesAndPrefixes();
        noOperators();
        operatorsAsAtoms();
        prefixAtItsEdges();
        prefixBeforeTerms();
        quotedOperators();
        sameVariables();
        firstSignThatCannotStand();
        lengthAtTheEnd();
        hundredTerms();
        thousandSymbols();
        Checks.close("GrammarEdgesTest");
    }

    private static List<Sides> operators() {
        List<Sides> all = new ArrayList<>();
        for (String row : TABLE) {
            String[] words = row.split(" ");
            int level = Integer.parseInt(words[0]);
            int left = words[1].charAt(0) == 'x' ? level - 1 : level;
            int right = words[1].charAt(2) == 'x' ? level - 1 : level;
            for (int i = 2; i < words.length; i++) {
                all.add(new Sides(words[i], level, left, right));
            }
        }
        return all;
    }

    private static void oneToEightTerms() {
        Checks.sentence("COMPOUNDS, a NAME with 1 to 8 TERMS; more than 8 TERMS: at the 9th");
        Checks.breaks("f().", 2);
        Checks.breaks("f( ).", 3);
        StringBuilder terms = new StringBuilder("1");
        for (int i = 1; i <= 8; i++) {
            Checks.reads("f(" + terms + ").", "f(" + terms + ")", 1 + i);
            terms.append("," + (i + 1));
        }
        Checks.breaks("f(" + terms + ").", 18);
        Checks.breaks("f(1,2,3,4,5,6,7,8 , %\n 9).", 23);
        Checks.breaks("f(1,2,3,4,5,6,7,8,9,10,11).", 18);
        Checks.breaks("f(1,2,3,4,5,6,7,8,(9)", 18);
        Checks.breaks("a= +(1,2,3,4,5,6,7,8,- 9).", 21);
        Checks.breaks("-(1,2,3,4,5,6,7,8,9).", 18);
        Checks.reads("[1,2,3,4,5,6,7,8,9,10].", "[1,2,3,4,5,6,7,8,9,10]", 21);
        Checks.reads("f((1,2,3,4,5,6,7,8,9)).", "f(','(1,','(2,','(3,','(4,','(5,','(6,','(7,','(8,9)))))))))", 18);
        Checks.reads("f(g(1,2,3,4,5,6,7,8),2,3,4,5,6,7,8).", "f(g(1,2,3,4,5,6,7,8),2,3,4,5,6,7,8)", 17);
    }

    private static void lists() {
        Checks.sentence("A LIST: [] is an ATOM, [H|T] the COMPOUND '.' of H and T; these: [T {, T} [| T]]");
        UnifyBench bench = Checks.bench("[].", "[h|t].", "'.'(h,t).", "[a,b].", "'.'(a,'.'(b,[])).", "[a|[b]].");
        Checks.due("[h|t]", true, bench.same(1, 2));
        Checks.due("[a,b]", true, bench.same(3, 4));
        Checks.due("[a|[b]]", true, bench.same(3, 5));
        Checks.due("[] has no part", "throws.NoSuchElementException", () -> part(bench, 6, 0, 1));
        Checks.due("H", "h", part(bench, 6, 1, 1));
        Checks.due("T", "t", part(bench, 6, 1, 2));
        Checks.due("no third", "throws.NoSuchElementException", () -> part(bench, 6, 1, 3));
        Checks.reads("[a].", "[a]", 3);
        Checks.reads("[a|b].", "[a|b]", 3);
        Checks.reads("[a,b|c].", "[a,b|c]", 5);
        Checks.reads("[a|[]].", "[a]", 3);
        Checks.breaks("[|a].", 1);
        Checks.breaks("[,a].", 1);
        Checks.breaks("[a,].", 3);
        Checks.breaks("[a|].", 3);
        Checks.breaks("[a|b,c].", 4);
        Checks.breaks("[a|b|c].", 4);
        Checks.breaks("[a|b.", 4);
        Checks.breaks("[a)", 2);
        Checks.breaks("[a|b)", 4);
    }

    private static String part(UnifyBench bench, int to, int a, int i) {
        bench.part(to, a, i);
        return Checks.printed(bench, to);
    }

    private static void termIs1200() {
        Checks.sentence("TERM: T(1200); T in ( ) is T(1200)");
        for (Sides op : OPERATORS) {
            Checks.reads("a " + op.text + " b.", op.of("a", "b"), 3);
            Checks.reads("(a " + op.text + " b).", op.of("a", "b"), 3);
            Checks.reads("f((a " + op.text + " b)).", "f(" + op.of("a", "b") + ")", 4);
            Checks.reads("1*(a " + op.text + " b)*2.", "*(*(1," + op.of("a", "b") + "),2)", 7);
            Checks.reads("- (a " + op.text + " b).", "-(" + op.of("a", "b") + ")", 4);
        }
        Checks.reads("(((a))).", "a", 1);
        Checks.breaks("().", 1);
        Checks.breaks("(a].", 2);
        Checks.breaks("(a.", 2);
        Checks.breaks("(a", 2);
        Checks.breaks("(a|b).", 2);
        Checks.breaks("a).", 1);
    }

    private static void innerTermsAre999() {
        Checks.sentence("TERMS of a COMPOUND and of [ ] are T(999)");
        for (Sides op : OPERATORS) {
            String text = "a " + op.text + " b";
            if (op.level > 999 && !op.isComma()) {
                Checks.breaks("f(" + text + ").", 4);
                Checks.breaks("f(c," + text + ").", 6);
                Checks.breaks("[" + text + "].", 3);
                Checks.breaks("[c," + text + "].", 5);
                Checks.breaks("[c|" + text + "].", 5);
            } else if (!op.isComma()) {
                Checks.reads("f(" + text + "," + text + ").", "f(" + op.of("a", "b") + "," + op.of("a", "b") + ")", 7);
                Checks.reads("[" + text + "|" + text + "].", "[" + op.of("a", "b") + "|" + op.of("a", "b") + "]", 7);
            }
        }
        Checks.reads("f(a,b).", "f(a,b)", 3);
        Checks.reads("[a,b].", "[a,b]", 5);
        Checks.reads("f(\\+a,[\\+b|\\+c]).", "f(\\+(a),[\\+(b)|\\+(c)])", 8);
    }

    private static void belowZero() {
        Checks.sentence("- INTEGER (right behind one another: an INTEGER below 0)");
        Checks.reads("-1.", "-1", 1);
        Checks.reads("-0.", "0", 1);
        Checks.reads("- 1.", "-(1)", 2);
        Checks.reads("-%\n1.", "-(1)", 2);
        Checks.reads("-(1).", "-(1)", 2);
        Checks.reads("- -1.", "-(-1)", 2);
        Checks.reads("[-1|-1].", "[-1|-1]", 3);
        Checks.reads("a-1.", "-(a,1)", 3);
        Checks.reads("a -1.", "-(a,1)", 3);
        Checks.reads("a- 1.", "-(a,1)", 3);
        Checks.reads("a- -1.", "-(a,-1)", 3);
        Checks.reads("1 -1.", "-(1,1)", 3);
        Checks.reads("-1-1.", "-(-1,1)", 3);
        Checks.reads("2* -1.", "*(2,-1)", 3);
        Checks.reads("\\+ -1.", "\\+(-1)", 2);
        Checks.breaks("--1.", 2);
        Checks.breaks("+1.", 1);
        Checks.breaks("-1(a).", 2);
        UnifyBench bench = Checks.bench("-1.", "- 1.", "1.", "0.", "-0.");
        Checks.due("-1 and - 1", false, bench.same(0, 1));
        Checks.due("-1 and 1", false, bench.same(0, 2));
        Checks.due("0 and -0", true, bench.same(3, 4));
    }

    private static void sidesOfOperators() {
        Checks.sentence("x: what stands there has a lesser n, y: n or less");
        for (Sides one : OPERATORS) {
            for (Sides two : OPERATORS) {
                String text = "a " + one.text + " b " + two.text + " c.";
                if (two.level <= one.right) {
                    Checks.reads(text, one.of("a", two.of("b", "c")), 5);
                } else if (one.level <= two.left) {
                    Checks.reads(text, two.of(one.of("a", "b"), "c"), 5);
                } else {
                    Checks.breaks(text, 5 + one.text.length());
                }
            }
        }
        Checks.sentence("with an op of n or less, as many as there are");
        Checks.reads("a:-b;c->d,e=f+g*h.", ":-(a,;(b,->(c,','(d,=(e,+(f,*(g,h)))))))", 15);
        Checks.reads("a*b+c=d,e->f;g:-h.", ":-(;(->(','(=(+(*(a,b),c),d),e),f),g),h)", 15);
    }

    private static void sidesAndPrefixes() {
        Checks.sentence("or a PREFIX p and T (its own n or less); 900 fy \\+ ; 200 fy -");
        for (Prefix p : PREFIXES) {
            for (Sides op : OPERATORS) {
                String front = p.text + " a " + op.text + " b.";
                Checks.reads(front, op.level <= p.level ? p.of(op.of("a", "b")) : op.of(p.of("a"), "b"), 4);
                String behind = "a " + op.text + " " + p.text + " b.";
                if (p.level <= op.right) {
                    Checks.reads(behind, op.of("a", p.of("b")), 4);
                } else {
                    Checks.breaks(behind, behind.length() - 2);
                }
            }
            Checks.reads(p.text + " " + p.text + " a.", p.of(p.of("a")), 3);
        }
        Checks.reads("\\+ - a.", "\\+(-(a))", 3);
        Checks.breaks("- \\+ a.", 5);
    }

    private static void noOperators() {
        Checks.sentence("OPERATORS: these, and no others");
        String[] others = {"/", "^", "**", "?-", "-->", "@<", "=..", "\\", "~", "xor", "//.", "is_", "iS", "!", "[]", "'|'"};
        for (String name : others) {
            Checks.breaks("a " + name + " b.", 2);
            Checks.breaks(name + " a.", name.length() + 1);
        }
        Checks.breaks("a \\+ b.", 2);
        for (Sides op : OPERATORS) {
            if (!op.isPrefixToo() && !op.isComma()) {
                Checks.breaks(op.text + " a.", op.text.length() + 1);
            }
        }
        Checks.breaks("a - .", 4);
        Checks.breaks("a * , b.", 4);
    }

    private static void operatorsAsAtoms() {
        Checks.sentence("a NAME that is an OPERATOR and stands where it can't be one is an ATOM (with n 0)");
        for (Sides op : OPERATORS) {
            if (op.isComma()) {
                Checks.breaks(", = a.", 0);
                Checks.breaks("a = , .", 4);
                continue;
            }
            String name = op.text;
            Checks.reads(name + " .", name, 1);
            Checks.reads("f(" + name + ").", "f(" + name + ")", 2);
            Checks.reads("[" + name + "|" + name + "].", "[" + name + "|" + name + "]", 3);
            Checks.reads("(" + name + ").", name, 1);
            Checks.reads(name + " * a.", "*(" + name + ",a)", 3);
            Checks.reads("a * " + name + " .", "*(a," + name + ")", 3);
            if (!op.isPrefixToo()) {
                Checks.reads(name + " " + name + " " + name + " .", op.of(name, name), 3);
                Checks.breaks(name + " " + name + " .", 2 * name.length() + 2);
            }
            Checks.reads("a * " + name + "(b).", "*(a," + name + "(b))", 4);
        }
        Checks.reads("\\+ * a.", "*(\\+,a)", 3);
        Checks.reads("a * \\+ .", "*(a,\\+)", 3);
        Checks.breaks("a * \\+ b.", 7);
    }

    private static void prefixAtItsEdges() {
        Checks.sentence("A PREFIX is one if a TERM can begin behind it: not an op of two sides (also with a ( right behind it),"
                + " ) ] } , | or END");
        for (Prefix p : PREFIXES) {
            for (Sides op : OPERATORS) {
                if (!op.isPrefixToo()) {
                    Checks.reads(p.text + " " + op.text + " a.", op.of(p.text, "a"), 3);
                    Checks.reads(p.text + " " + op.text + "(a,b).", op.of(p.text, "','(a,b)"), 5);
                    Checks.breaks(p.text + " " + op.text + " .", p.text.length() + op.text.length() + 2);
                }
            }
            Checks.reads("(" + p.text + ").", p.text, 1);
            Checks.reads("[" + p.text + "].", "[" + p.text + "]", 3);
            Checks.breaks("(" + p.text + " }.", 2 + p.text.length());
            Checks.reads("f(" + p.text + ",a).", "f(" + p.text + ",a)", 3);
            Checks.reads("[" + p.text + "|a].", "[" + p.text + "|a]", 3);
            Checks.reads(p.text + " .", p.text, 1);
            Checks.breaks(p.text, p.text.length());
        }
    }

    private static void prefixBeforeTerms() {
        Checks.sentence("unless that is ( or a PREFIX");
        String[] behind = {"(a)", "(a,b)", "- a", "-1", "\\+ a", "-", "\\+", "-(a,b)", "\\+(a)"};
        String[] printed = {"a", "','(a,b)", "-(a)", "-1", "\\+(a)", "-", "\\+", "-(a,b)", "\\+(a)"};
        int[] symbols = {1, 3, 2, 1, 2, 1, 1, 3, 2};
        for (int i = 0; i < behind.length; i++) {
            Checks.reads("\\+ " + behind[i] + " .", "\\+(" + printed[i] + ")", 1 + symbols[i]);
            if (!behind[i].equals("\\+ a")) {
                Checks.reads("- " + behind[i] + " .", "-(" + printed[i] + ")", 1 + symbols[i]);
            }
        }
        Checks.reads("- - = 1.", "=(-(-),1)", 4);
        Checks.sentence("A PREFIX is one if a TERM can begin behind it");
        for (String term : new String[] {"a", "'B c'", "[]", "[a]", "!", "f(a)", "1", "@", "','"}) {
            Object own = Checks.read(new UnifyBench(), 0, term + " .");
            Checks.due("read of " + term, true, own instanceof Integer);
            Checks.reads("- " + term + " .", "-(" + term + ")", 1 + (Integer) own);
        }
        Checks.reads("- X.", "-(_0)", 2);
    }

    private static void quotedOperators() {
        Checks.sentence("A NAME in ' ' is in all as one without (',' is no OPERATOR)");
        for (Sides op : OPERATORS) {
            if (!op.isComma()) {
                Checks.reads("a '" + op.text + "' b.", op.of("a", "b"), 3);
                Checks.due("the same " + op.text, true,
                        Checks.bench("a '" + op.text + "' b.", op.text + "(a,b).").same(0, 1));
            }
        }
        Checks.reads("'-'1.", "-1", 1);
        Checks.reads("'-' 1.", "-(1)", 2);
        Checks.reads("'-'a.", "-(a)", 2);
        Checks.reads("'\\+'a.", "\\+(a)", 2);
        Checks.reads("- '='a.", "=(-,a)", 3);
        Checks.reads("- '='(a).", "=(-,a)", 3);
        Checks.breaks("a ',' b.", 2);
        Checks.breaks("',' a.", 4);
        Checks.reads("','(a,b).", "','(a,b)", 3);
        Checks.due("the same ,", true, Checks.bench("a,b.", "','(a,b).").same(0, 1));
        Checks.reads("f(',').", "f(',')", 2);
        Checks.reads("- ',' .", "-(',')", 2);
        Checks.reads("',' = ',' .", "=(',',',')", 3);
    }

    private static void sameVariables() {
        Checks.sentence("The same VARIABLE within one TERM that is read is the same, but _ is always another");
        Checks.reads("f(X,X,Y,_,_,_a,_a,__).", "f(_0,_0,_1,_2,_3,_4,_4,_5)", 9);
        UnifyBench bench = Checks.bench("f(_,_).", "f(a,b).", "f(_X,_X).");
        Checks.due("_ is another", true, bench.unify(0, 1));
        Checks.due("_X is the same", false, bench.unify(2, 1));
    }

    private static void firstSignThatCannotStand() {
        Checks.sentence("broken at the PLACE (from 0) of the first sign that can't stand there");
        Checks.breaks(").", 0);
        Checks.breaks("  ).", 2);
        Checks.breaks("%a\n ).", 4);
        Checks.breaks("a b 'c", 2);
        Checks.breaks("a 1 \0", 2);
        Checks.breaks("f(a b, 9007199254740992).", 4);
        Checks.breaks("a. b.", 3);
        Checks.breaks("a. %b\n.", 6);
        Checks.breaks("a=b=c.", 3);
        Checks.breaks("a=b :- c :- d.", 9);
        Checks.breaks("X Y.", 2);
        Checks.breaks("(a) b.", 4);
        Checks.breaks(".", 0);
        Checks.breaks("a,.", 2);
        Checks.breaks("a, .", 3);
    }

    private static void lengthAtTheEnd() {
        Checks.sentence("its length at the end");
        Checks.breaks("", 0);
        Checks.breaks(" ", 1);
        Checks.breaks("a", 1);
        Checks.breaks("a ", 2);
        Checks.breaks("a %.", 4);
        Checks.breaks("f(", 2);
        Checks.breaks("f(a,", 4);
        Checks.breaks("[a|", 3);
        Checks.breaks("a = ", 4);
        Checks.breaks("- ", 2);
        Checks.breaks(Checks.repeated(" ", 4096), 4096);
        Checks.breaks(Checks.repeated("a", 4096), 4096);
    }

    private static void hundredTerms() {
        Checks.sentence("more than 100 T(n) begun and not ended at a time: at the first sign of one more");
        deepest("(", ")", 1);
        deepest("f(", ")", 2);
        deepest("f(b,", ")", 2);
        deepest("[", "]", 1);
        deepest("[b,", "]", 1);
        deepest("[b|", "]", 1);
        deepest("- ", "", 2);
        deepest("\\+ ", "", 3);
        deepest("b,", "", 2);
        deepest("b;", "", 2);
        deepest("b->", "", 3);
        // What is ended counts no more.
        Checks.reads("[" + Checks.repeated("(a),", 300) + "a].", "[" + Checks.repeated("a,", 300) + "a]", 603);
        Checks.reads("1" + Checks.repeated("- 1", 300) + ".",
                Checks.repeated("-(", 300) + "1" + Checks.repeated(",1)", 300), 601);
        String full = Checks.repeated("(", 98) + "f(a,b,c)" + Checks.repeated(")", 98) + ".";
        Checks.reads(full, "f(a,b,c)", 4);
        Checks.breaks(full.replace("c", "- c"), 98 + 8);
        Checks.breaks(full.replace("c", "c= %\n d"), 98 + 12);
    }

    /** 99 of them begin 99 within the first one; the next begins one more at the offset. */
    private static void deepest(String before, String behind, int offset) {
        String most = Checks.repeated(before, 99) + "a" + Checks.repeated(behind, 99) + ".";
        Checks.due("99 times " + before, true, Checks.read(new UnifyBench(), 0, most) instanceof Integer);
        String more = Checks.repeated(before, 100) + "a" + Checks.repeated(behind, 100) + ".";
        Checks.breaks(more, 99 * before.length() + offset);
        Checks.breaks(Checks.repeated(before, 120), 99 * before.length() + offset);
    }

    private static void thousandSymbols() {
        Checks.sentence("a TERM of more than 1000 SYMBOLS, if nothing else is broken: at its first sign");
        for (String item : new String[] {"X", "1", "-1", "a", "[]", "'b c'"}) {
            String items = "[" + Checks.repeated(item + ",", 498) + item + "]";
            Checks.due("999 of " + item, 999, Checks.read(new UnifyBench(), 0, items + "."));
            Checks.due("1000 of " + item, 1000, Checks.read(new UnifyBench(), 0, "f(" + items + ")."));
            Checks.breaks("f(f(" + items + ")).", 0);
            Checks.breaks(" %\n (\\+ \\+" + items + ").", 4);
            Checks.breaks("f(f(" + items + "))", 4 + items.length() + 2);
            Checks.breaks("f(f(" + items + ")). b", 4 + items.length() + 4);
            Checks.breaks("f(f(" + items + "),9007199254740992).", 4 + items.length() + 2);
        }
        Checks.due("500 names of two", 999, Checks.read(new UnifyBench(), 0, "1" + Checks.repeated("+1", 499) + "."));
        Checks.breaks("1" + Checks.repeated("+1", 500) + ".", 0);
        Checks.breaks("1" + Checks.repeated("+1", 2000) + ".", 0);
        Checks.due("1001 before variables", "throws.UnsupportedOperationException",
                Checks.read(new UnifyBench(), 0, "[" + Checks.repeated("_,", 499) + "_]."));
    }
}
