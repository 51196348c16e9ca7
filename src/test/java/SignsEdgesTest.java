/** The edges that the section "Terms" names for signs, a sentence at a time, in the document's order. */
public final class SignsEdgesTest {
    private static final String SMALL = "abcdefghijklmnopqrstuvwxyz";
    private static final String GREAT = "ABCDEFGHIJKLMNOPQRSTUVWXYZ";
    private static final String DIGITS = "0123456789";
    private static final String OF_WORD = SMALL + GREAT + DIGITS + "_";
    private static final String SYMBOLS = "+-*/\\^<>=~:.?@#&$";
    private static final String BLANKS = "\t\n\r ";
    private static final int BYTES = 256;

    private SignsEdgesTest() {
    }

    public static void main(String[] args) {
        blanks();
        comments();
        firstBytes();
        variables();
        integers();
        words();
        quoted();
        quoteInQuotes();
        notClosed();
        symbols();
        ends();
        endStandsAlone();
        aloneNames();
        emptyList();
        roundBehindName();
        braces();
        Checks.close("SignsEdgesTest");
    }

    private static boolean isIn(String bytes, int b) {
        return bytes.indexOf(b) >= 0;
    }

    private static void blanks() {
        Checks.sentence("SIGNS, with blanks (9, 10, 13, 32) before them");
        for (char b : BLANKS.toCharArray()) {
            Checks.reads(b + "f(" + b + "X" + b + "," + b + "[" + b + "a" + b + "|" + b + "1" + b + "]" + b + ")" + b + "." + b,
                    "f(_0,[a|1])", 5);
        }
        Checks.reads("\t\n\r  \t\n\r a \t\n\r . \t\n\r ", "a", 1);
        for (int b = 0; b < 33; b++) {
            if (!isIn(BLANKS, b)) {
                Checks.breaks("a" + (char) b + ".", 1);
            }
        }
    }

    private static void comments() {
        Checks.sentence("or comments (% up to 10 or the end) before them");
        Checks.reads("%\na%\n.%\n", "a", 1);
        Checks.reads("%%b.\n%\n \n%'c\na.", "a", 1);
        Checks.reads("f(%(\nX%)\n,%b\n[%c\na%d\n]%e\n)%f\n.", "f(_0,[a])", 5);
        Checks.breaks("%", 1);
        Checks.breaks("a%.", 3);
        Checks.breaks("a%\r.", 4);
        Checks.breaks("% \n", 3);
        for (int b = 0; b < BYTES; b++) {
            if (b == 10) {
                Checks.breaks("a.%" + (char) b + "b", 4);
            } else {
                Checks.reads("a.%" + (char) b + "b", "a", 1);
            }
        }
    }

    private static void firstBytes() {
        Checks.sentence("What is read is broken at .. a byte that begins no sign: there");
        for (int b = 0; b < BYTES; b++) {
            String text = (char) b + "a.";
            if (isIn(BLANKS, b)) {
                Checks.reads(text, "a", 1);
            } else if (isIn(SMALL, b)) {
                Checks.reads(text, (char) b + "a", 1);
            } else if (isIn(GREAT + "_", b)) {
                Checks.reads(text, "_0", 1);
            } else if (b == '-') {
                Checks.reads(text, "-(a)", 2);
            } else if (b == '%') {
                Checks.breaks(text, 3);
            } else if (isIn("([", b)) {
                Checks.breaks(text, 2);
            } else if (isIn(DIGITS + SYMBOLS + "!;", b)) {
                Checks.breaks(text, 1);
            } else {
                Checks.breaks(text, 0);
            }
        }
        Checks.breaks("f(a,\f).", 4);
        Checks.breaks("[a|\"b\"].", 3);
        Checks.breaks("a\200.", 1);
        Checks.breaks("a. \0", 3);
    }

    /** Every byte behind a sign: those that go on with it, and all others, which begin another sign or none. */
    private static void everyByteBehind(String sign, String goingOn) {
        boolean isVariable = isIn(GREAT + "_", sign.charAt(0));
        for (int b = 0; b < BYTES; b++) {
            String text = "f(" + sign + (char) b + "," + sign + ").";
            if (isIn(goingOn, b)) {
                Checks.reads(text, isVariable ? "f(_0,_1)" : "f(" + sign + (char) b + "," + sign + ")", 3);
            } else if (isIn(BLANKS, b)) {
                Checks.reads(text, isVariable ? "f(_0,_0)" : "f(" + sign + "," + sign + ")", 3);
            } else if (b == '%') {
                Checks.breaks(text, text.length());
            } else if (b == ')') {
                Checks.breaks(text, text.length() - 2);
            } else {
                boolean canStand = isIn("+-*<>=,", b) || b == '(' && !isVariable && !isIn(DIGITS, sign.charAt(0));
                Checks.breaks(text, 2 + sign.length() + (canStand ? 1 : 0));
            }
        }
    }

    private static void variables() {
        Checks.sentence("VARIABLE: a letter A .. Z or _, then letters, digits, _");
        everyByteBehind("A", OF_WORD);
        everyByteBehind("Zz9_", OF_WORD);
        everyByteBehind("_a", OF_WORD);
        for (char first : (GREAT + "_").toCharArray()) {
            Checks.reads("f(" + first + "0," + first + "0).", "f(_0,_0)", 3);
        }
        Checks.reads("[A,Aa,AA,A0,A_,Z,_Z,_0,__,_].", "[_0,_1,_2,_3,_4,_5,_6,_7,_8,_9]", 21);
    }

    private static void integers() {
        Checks.sentence("INTEGER: digits");
        everyByteBehind("1", DIGITS);
        everyByteBehind("90", DIGITS);
        Checks.reads("0.", "0", 1);
        Checks.reads("0123456789.", "123456789", 1);
        Checks.sentence("INTEGERS, at most 2^53 - 1 in size; an INTEGER too great: there");
        Checks.reads("9007199254740991.", "9007199254740991", 1);
        Checks.reads("-9007199254740991.", "-9007199254740991", 1);
        Checks.reads("00000000000000000000000000009007199254740991.", "9007199254740991", 1);
        Checks.breaks("9007199254740992.", 0);
        Checks.breaks("-9007199254740992.", 1);
        Checks.breaks("[a,9007199254740992].", 3);
        Checks.breaks("00000000000000000000000000009007199254740992.", 0);
        // 2^63, 2^64 and 2^64 + 1, which an overflow would make small.
        Checks.breaks("9223372036854775808.", 0);
        Checks.breaks("18446744073709551616.", 0);
        Checks.breaks("18446744073709551617.", 0);
        Checks.breaks(Checks.repeated("9", 4000) + ".", 0);
    }

    private static void words() {
        Checks.sentence("NAME: a letter a .. z, then letters, digits, _");
        everyByteBehind("q", OF_WORD);
        everyByteBehind("zA0_", OF_WORD);
        for (char first : SMALL.toCharArray()) {
            Checks.reads(first + "0.", first + "0", 1);
        }
    }

    private static void quoted() {
        Checks.sentence("or ' characters 32 .. 126 but '");
        for (int b = 0; b < BYTES; b++) {
            String text = "'" + (char) b + "'.";
            if (b < 32 || b > 126 || b == '\'') {
                Checks.breaks(text, 0);
                Checks.breaks("f('a" + (char) b + "b).", 2 + (b == '\'' ? 3 : 0));
            } else {
                boolean plain = isIn(SMALL + SYMBOLS + "!;", b) && b != '.';
                Checks.reads(text, plain ? "" + (char) b : "'" + (char) b + "'", 1);
            }
        }
    }

    private static void quoteInQuotes() {
        Checks.sentence("but ', which is '' in it");
        Checks.reads("''.", "''", 1);
        Checks.reads("''''.", "''''", 1);
        Checks.reads("''''''.", "''''''", 1);
        Checks.reads("'a''b'.", "'a''b'", 1);
        Checks.reads("'''a'.", "'''a'", 1);
        Checks.reads("'a'''.", "'a'''", 1);
        Checks.reads("'''a'''(1).", "'''a'''(1)", 2);
        Checks.breaks("'a' 'b'.", 4);
        UnifyBench bench = Checks.bench("''''.", "''''''.", "''.");
        Checks.due("one ' and two", false, bench.same(0, 1));
        Checks.due("one ' and none", false, bench.same(0, 2));
    }

    private static void notClosed() {
        Checks.sentence("a ' that is not closed: there");
        Checks.breaks("'", 0);
        Checks.breaks("'a", 0);
        Checks.breaks("'a.", 0);
        Checks.breaks("'''", 0);
        Checks.breaks("'a''", 0);
        Checks.breaks("  'a''.", 2);
        Checks.breaks("f(a,'b).", 4);
        Checks.breaks("a. '", 3);
        Checks.breaks("'a\n'.", 0);
    }

    private static void symbols() {
        Checks.sentence("or as many of + - * / \\ ^ < > = ~ : . ? @ # & $ as follow one another");
        everyByteBehind("~", SYMBOLS);
        everyByteBehind("=:=:", SYMBOLS);
        everyByteBehind("+.", SYMBOLS);
        for (char symbol : SYMBOLS.toCharArray()) {
            Checks.reads("f(" + symbol + ").", symbol == '.' ? "f('.')" : "f(" + symbol + ")", 2);
            Checks.reads("f(" + symbol + symbol + ").", "f(" + symbol + symbol + ")", 2);
        }
        Checks.breaks("a=-1.", 1);
        Checks.breaks("a- -b--c.", 5);
    }

    private static void ends() {
        Checks.sentence("a . followed by a blank, % or the end is END");
        Checks.reads("a.", "a", 1);
        for (int b = 0; b < BYTES; b++) {
            String text = "a." + (char) b;
            if (isIn(BLANKS + "%", b)) {
                Checks.reads(text, "a", 1);
            } else {
                Checks.breaks(text, 1);
            }
        }
        Checks.reads("f(.).", "f('.')", 2);
        Checks.breaks("f(. ).", 2);
        Checks.breaks("f(.%\n).", 2);
        Checks.breaks("f(.", 2);
        Checks.breaks("[a. ].", 2);
    }

    private static void endStandsAlone() {
        Checks.sentence("is END, if it stands alone");
        Checks.breaks("a.. ", 1);
        Checks.breaks("a=. ", 1);
        Checks.breaks("a.=. ", 1);
        Checks.breaks("a...", 1);
        Checks.reads("+. . ", "+.", 1);
        Checks.reads("1+2 .", "+(1,2)", 3);
    }

    private static void aloneNames() {
        Checks.sentence("or ! or ;");
        Checks.reads("f(!,;).", "f(!,;)", 3);
        Checks.reads("!;!.", ";(!,!)", 3);
        Checks.reads(";;; .", ";(;,;)", 3);
        Checks.breaks("!!.", 1);
        Checks.breaks(";;.", 2);
        Checks.breaks("!a.", 1);
        Checks.breaks("!=.", 1);
    }

    private static void emptyList() {
        Checks.sentence("[] with nothing between is a NAME, too");
        Checks.reads("[].", "[]", 1);
        Checks.reads("'[]'.", "[]", 1);
        Checks.reads("[](a).", "[](a)", 2);
        Checks.breaks("[ ].", 2);
        Checks.breaks("[\n].", 2);
        Checks.breaks("[%\n].", 3);
        Checks.breaks("a[].", 1);
        Checks.due("'[]' and []", true, Checks.bench("[].", "'[]'.").same(0, 1));
    }

    private static void roundBehindName() {
        Checks.sentence("A ( right behind a NAME, with nothing between, opens its TERMS");
        for (String name : new String[] {"f", "'F'", "[]", "!", ";", "+", "-", "\\+", "is", ":-", "@", "','"}) {
            Checks.reads(name + "(a,b).", name + "(a,b)", 3);
        }
        for (String name : new String[] {"f", "'F'", "[]", "!", ";", "+", "is", ":-", "@", "','"}) {
            Checks.breaks(name + " (a,b).", name.length() + 1);
            Checks.breaks(name + "%\n(a,b).", name.length() + 2);
        }
        Checks.reads("- (a,b).", "-(','(a,b))", 4);
        Checks.reads("\\+\n(a,b).", "\\+(','(a,b))", 4);
        Checks.breaks("X(a).", 1);
        Checks.breaks("1(a).", 1);
        Checks.breaks("f(a)(b).", 4);
        Checks.breaks("[a](b).", 3);
        Checks.breaks("(a)(b).", 3);
    }

    private static void braces() {
        Checks.sentence("{ } stand nowhere");
        Checks.breaks("{}.", 0);
        Checks.breaks("{a}.", 0);
        Checks.breaks("f({).", 2);
        Checks.breaks("f(}).", 2);
        Checks.breaks("[{}].", 1);
        Checks.breaks("a{}.", 1);
        Checks.breaks("- {a}.", 2);
        Checks.breaks("- }.", 2);
        Checks.breaks("a= {}.", 3);
        Checks.breaks("a. {", 3);
        Checks.breaks("a. }", 3);
    }
}
