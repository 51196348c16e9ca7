/** Promise 4, with the section "Terms": what texts are read as, and where they are broken. */
public final class ReadingTest {
    private ReadingTest() {
    }

    public static void main(String[] args) {
        signs();
        names();
        operators();
        prefixes();
        lists();
        compounds();
        brokenSigns();
        brokenTerms();
        limits();
        Checks.close("ReadingTest");
    }

    private static void reads(String text, String printed, int symbols) {
        Checks.reads(text, printed, symbols);
    }

    private static void breaks(String text, int place) {
        Checks.breaks(text, place);
    }

    private static void signs() {
        reads("a.", "a", 1);
        reads("a .", "a", 1);
        reads("a. ", "a", 1);
        reads("a.\t\r\n ", "a", 1);
        reads("a.%", "a", 1);
        reads("a.%x y \377 (", "a", 1);
        reads("\t\n\r a%b\n .", "a", 1);
        reads("% c\n% d\na.% e\n% f", "a", 1);
        reads("X.", "_0", 1);
        reads("_.", "_0", 1);
        reads("f(_,_,_a,__,_a,Ab_9,Ab_9).", "f(_0,_1,_2,_3,_2,_4,_4)", 8);
        reads("0.", "0", 1);
        reads("-0.", "0", 1);
        reads("007.", "7", 1);
        reads("00000000000000000000000000000012.", "12", 1);
        reads("9007199254740991.", "9007199254740991", 1);
        reads("-9007199254740991.", "-9007199254740991", 1);
        reads("1000000000000000.", "1000000000000000", 1);
    }

    private static void names() {
        reads("aB_9z.", "aB_9z", 1);
        reads("'aB'.", "aB", 1);
        reads("'Ab'.", "'Ab'", 1);
        reads("'_b'.", "'_b'", 1);
        reads("'12'.", "'12'", 1);
        reads("'-1'.", "'-1'", 1);
        reads("'a b'.", "'a b'", 1);
        reads("''.", "''", 1);
        reads("''''.", "''''", 1);
        reads("'it''s'.", "'it''s'", 1);
        reads("'a''''b'.", "'a''''b'", 1);
        reads("' ~!'.", "' ~!'", 1);
        reads("'%'.", "'%'", 1);
        reads("'\\n'.", "'\\n'", 1);
        reads("!.", "!", 1);
        reads("'!'.", "!", 1);
        reads("'!!'.", "'!!'", 1);
        reads("'a!'.", "'a!'", 1);
        reads("(;).", ";", 1);
        reads("';'.", ";", 1);
        reads("';;'.", "';;'", 1);
        reads("[].", "[]", 1);
        reads("'[]'.", "[]", 1);
        reads("'[ ]'.", "'[ ]'", 1);
        reads("'{}'.", "'{}'", 1);
        reads("'|'.", "'|'", 1);
        reads("','.", "','", 1);
        reads("'('.", "'('", 1);
        reads("'.'.", "'.'", 1);
        reads("f(.).", "f('.')", 2);
        reads("'..'.", "..", 1);
        reads("f(..).", "f(..)", 2);
        reads("+-*/\\^<>=~:.?@#&$ .", "+-*/\\^<>=~:.?@#&$", 1);
        reads("f(=.).", "f(=.)", 2);
        reads("'+a'.", "'+a'", 1);
        reads("'a+'.", "'a+'", 1);
        reads("'=.'.", "=.", 1);
    }

    private static void operators() {
        reads("a:-b.", ":-(a,b)", 3);
        reads("a:-b,c;d->e.", ":-(a,;(','(b,c),->(d,e)))", 9);
        reads("a,b,c.", "','(a,','(b,c))", 5);
        reads("a;b;c.", ";(a,;(b,c))", 5);
        reads("a->b->c.", "->(a,->(b,c))", 5);
        reads("1-2-3.", "-(-(1,2),3)", 5);
        reads("1+2-3+4.", "+(-(+(1,2),3),4)", 7);
        reads("1*2//3 mod 4 rem 5.", "rem(mod(//(*(1,2),3),4),5)", 9);
        for (String op : new String[] {"*", "//", "mod", "rem"}) {
            reads("1 " + op + " 2 " + op + " 3.", op + "(" + op + "(1,2),3)", 5);
            reads("1 " + op + " 2*3+4.", "+(*(" + op + "(1,2),3),4)", 7);
            reads("1+2 " + op + " 3.", "+(1," + op + "(2,3))", 5);
        }
        reads("1+2*3.", "+(1,*(2,3))", 5);
        reads("1*2+3.", "+(*(1,2),3)", 5);
        reads("(1+2)*3.", "*(+(1,2),3)", 5);
        reads("X is Y+1.", "is(_0,+(_1,1))", 5);
        String[] sevens = {"=", "\\=", "==", "\\==", "is", "<", ">", "=<", ">=", "=:=", "=\\="};
        for (String op : sevens) {
            reads("a " + op + " b+c.", op + "(a,+(b,c))", 5);
            breaks("a " + op + " b " + op + " c.", 5 + op.length());
        }
        reads("a=b,c.", "','(=(a,b),c)", 5);
        reads("a '=' b.", "=(a,b)", 3);
        reads("a 'mod' b.", "mod(a,b)", 3);
        reads("a =(b).", "=(a,b)", 3);
        reads("a =(b,c).", "=(a,','(b,c))", 5);
        reads("a,(b).", "','(a,b)", 3);
        reads("= = = .", "=(=,=)", 3);
        reads("mod mod mod.", "mod(mod,mod)", 3);
        reads("a= =(b,c).", "=(a,=(b,c))", 5);
        reads("[=,:-|is].", "[=,:-|is]", 5);
        reads("f(:-,;,->).", "f(:-,;,->)", 4);
        reads("(a:-b)=c.", "=(:-(a,b),c)", 5);
        reads("','(a,b).", "','(a,b)", 3);
        breaks("a ',' b.", 2);
        breaks("a:-b:-c.", 4);
        breaks("a/b.", 1);
        breaks("a\\+b.", 1);
        breaks("a =.", 2);
        breaks("a= .", 3);
        breaks("a=b=c.", 3);
        breaks("f(a:-b).", 3);
        breaks("f(a;b).", 3);
        breaks("[a->b].", 2);
        breaks(":- a.", 3);
        breaks("a--1.", 1);
        breaks("2*-1.", 1);
    }

    private static void prefixes() {
        reads("-1.", "-1", 1);
        reads("'-'1.", "-1", 1);
        reads("- 1.", "-(1)", 2);
        reads("-(1).", "-(1)", 2);
        reads("-(1,2).", "-(1,2)", 3);
        reads("- (1,2).", "-(','(1,2))", 4);
        reads("-%\n(1,2).", "-(','(1,2))", 4);
        reads("- -1.", "-(-1)", 2);
        reads("- - 1.", "-(-(1))", 3);
        reads("- - .", "-(-)", 2);
        reads("-a.", "-(a)", 2);
        reads("-a*b.", "*(-(a),b)", 4);
        reads("-X+1.", "+(-(_0),1)", 4);
        reads("-1+2.", "+(-1,2)", 3);
        reads("a -1.", "-(a,1)", 3);
        reads("a-1.", "-(a,1)", 3);
        reads("a - -1.", "-(a,-1)", 3);
        reads("a- - 1.", "-(a,-(1))", 4);
        reads("\\+a=b.", "\\+(=(a,b))", 4);
        reads("\\+ \\+a,b.", "','(\\+(\\+(a)),b)", 5);
        reads("\\+(a,b).", "\\+(a,b)", 3);
        reads("\\+ (a,b).", "\\+(','(a,b))", 4);
        reads("\\+1.", "\\+(1)", 2);
        reads("'\\+' a.", "\\+(a)", 2);
        reads("- .", "-", 1);
        reads("- = a.", "=(-,a)", 3);
        reads("- =(a,b).", "=(-,','(a,b))", 5);
        reads("- '='(a).", "=(-,a)", 3);
        reads("- -(1).", "-(-(1))", 3);
        reads("- - = 1.", "=(-(-),1)", 4);
        reads("- ','.", "-(',')", 2);
        reads("- ','(a).", "-(','(a))", 3);
        reads("f(-,-).", "f(-,-)", 3);
        reads("[-|-].", "[-|-]", 3);
        reads("(-).", "-", 1);
        reads("-,a.", "','(-,a)", 3);
        reads("- [a].", "-([a])", 4);
        reads("- [].", "-([])", 2);
        reads("- !.", "-(!)", 2);
        reads("a= \\+ .", "=(a,\\+)", 3);
        reads("- \\+ .", "-(\\+)", 2);
        reads("a= \\+(b).", "=(a,\\+(b))", 4);
        reads("[\\+a].", "[\\+(a)]", 4);
        breaks("a= \\+ b.", 6);
        breaks("- \\+ a.", 5);
        breaks("- mod.", 5);
        breaks("- {a}.", 2);
        breaks("- }.", 2);
        breaks("--1.", 2);
        breaks("-1(a).", 2);
    }

    private static void lists() {
        reads("[a].", "[a]", 3);
        reads("[a,b,c].", "[a,b,c]", 7);
        reads("[a|b].", "[a|b]", 3);
        reads("[a,b|c].", "[a,b|c]", 5);
        reads("[a|[b|[]]].", "[a,b]", 5);
        reads("[a|X].", "[a|_0]", 3);
        reads("[[]].", "[[]]", 3);
        reads("[[],[a]|[]].", "[[],[a]]", 7);
        reads("'.'(a,b).", "[a|b]", 3);
        reads(".(a,[]).", "[a]", 3);
        reads("'.'(a).", "'.'(a)", 2);
        reads("'.'(a,b,c).", "'.'(a,b,c)", 4);
        reads("[](a,b).", "[](a,b)", 3);
        reads("[a|[](b)].", "[a|[](b)]", 4);
        reads("[(a,b),c].", "[','(a,b),c]", 7);
        reads("[a=b|c].", "[=(a,b)|c]", 5);
        breaks("[ ].", 2);
        breaks("[%\n].", 3);
        breaks("[|a].", 1);
        breaks("[a,].", 3);
        breaks("[a|].", 3);
        breaks("[a|b,c].", 4);
        breaks("[a|b|c].", 4);
        breaks("[a b].", 3);
        breaks("[a).", 2);
        breaks("[a.", 2);
        breaks("[a", 2);
        breaks("].", 0);
    }

    private static void compounds() {
        reads("f(a).", "f(a)", 2);
        reads("f( a , B , -1 ).", "f(a,_0,-1)", 4);
        reads("'f'(a).", "f(a)", 2);
        reads("'F g'(a).", "'F g'(a)", 2);
        reads("!(a).", "!(a)", 2);
        reads(";(a,b).", ";(a,b)", 3);
        reads("+(a,b).", "+(a,b)", 3);
        reads("mod(a).", "mod(a)", 2);
        reads("f((a,b)).", "f(','(a,b))", 4);
        reads("f(1,2,3,4,5,6,7,8).", "f(1,2,3,4,5,6,7,8)", 9);
        reads("((a)).", "a", 1);
        breaks("f(1,2,3,4,5,6,7,8,9).", 18);
        breaks("f(1,2,3,4,5,6,7,8, 9,10).", 19);
        breaks("f(1,2,3,4,5,6,7,8,).", 18);
        breaks("f(1,2,3,4,5,6,7,8, ", 19);
        breaks("f().", 2);
        breaks("f (a).", 2);
        breaks("f(a,).", 4);
        breaks("f(a|b).", 3);
        breaks("f(a].", 3);
        breaks("f(a b).", 4);
        breaks("X(a).", 1);
        breaks("f(a)(b).", 4);
        breaks("(a|b).", 2);
        breaks("(a", 2);
        breaks("(a.", 2);
        breaks("().", 1);
        breaks(").", 0);
    }

    private static void brokenSigns() {
        breaks("9007199254740992.", 0);
        breaks("-9007199254740992.", 1);
        breaks("f(99999999999999999999999999999999999999).", 2);
        breaks("a 9007199254740992.", 2);
        breaks("'abc.", 0);
        breaks("f('abc).", 2);
        breaks("'abc''.", 0);
        breaks("'a\nb'.", 0);
        breaks("'a\177b'.", 0);
        breaks("'a\377b'.", 0);
        breaks("- 'abc.", 2);
        breaks("\"a\".", 0);
        breaks("f(`).", 2);
        breaks("\377.", 0);
        breaks("a\0.", 1);
        breaks("{a}.", 0);
        breaks("f({}).", 2);
        breaks("a}.", 1);
        breaks("1.5.", 1);
        breaks("12abc.", 2);
        breaks("a.b.", 1);
        breaks("a..", 1);
        breaks("X.Y.", 1);
    }

    private static void brokenTerms() {
        breaks("", 0);
        breaks("   ", 3);
        breaks("% a.", 4);
        breaks("a", 1);
        breaks("a % b.", 6);
        breaks(".", 0);
        breaks(" . ", 1);
        breaks("a. b.", 3);
        breaks("a. .", 3);
        breaks("a.%c\n 'b", 6);
        breaks("a b.", 2);
        breaks("a X.", 2);
        breaks("X Y.", 2);
        breaks("1 2.", 2);
        breaks("a,.", 2);
        breaks("a, .", 3);
    }

    private static void limits() {
        for (String[] nest : new String[][] {{"(", ")"}, {"f(", ")"}, {"[", "]"}, {"- ", ""}, {"a,", ""}}) {
            deepest(nest, 99);
        }
        // Each of these begins two: the right side, and the term in ( ).
        deepest(new String[] {"a:-(", ")"}, 49);
        reads("1" + Checks.repeated("+1", 120) + ".", Checks.repeated("+(", 120) + "1" + Checks.repeated(",1)", 120), 241);
        reads("[" + Checks.repeated("a,", 498) + "a].", "[" + Checks.repeated("a,", 498) + "a]", 999);
        reads("[" + Checks.repeated("a,", 498) + "a|-a].", "[" + Checks.repeated("a,", 498) + "a|-(a)]", 1000);
        breaks(" [" + Checks.repeated("a,", 499) + "a].", 1);
        breaks(" [" + Checks.repeated("a,", 1999) + "a].", 1);
        breaks("%\n\n [" + Checks.repeated("_,", 1999) + "_]. % over", 4);
        breaks(" [" + Checks.repeated("a,", 1999) + "a]. b", 4004);
        breaks(" [" + Checks.repeated("_,", 1999) + "_)", 4001);
        breaks("1" + Checks.repeated("+1", 500) + ".", 0);
        reads("1" + Checks.repeated("+1", 499) + ".",
                Checks.repeated("+(", 499) + "1" + Checks.repeated(",1)", 499), 999);
        variablesMost();
    }

    private static void deepest(String[] nest, int levels) {
        Object read = Checks.read(new UnifyBench(), 0, nested(nest, levels));
        Checks.due(levels + " of " + nest[0], true, read instanceof Integer);
        breaks(nested(nest, levels + 1), (levels + 1) * nest[0].length());
    }

    private static String nested(String[] nest, int levels) {
        return Checks.repeated(nest[0], levels) + "a" + Checks.repeated(nest[1], levels) + ".";
    }

    private static void variablesMost() {
        UnifyBench bench = new UnifyBench();
        Checks.due("199 variables", 399, Checks.read(bench, 0, "[A," + Checks.repeated("_,", 197) + "_]."));
        Checks.due("2 more", "throws.IndexOutOfBoundsException", Checks.read(bench, 0, "[B,C,A]."));
        Checks.due("place of none", -1, bench.count(2));
        Checks.due("tape", 0, bench.count(0));
        Checks.due("1 more", 7, Checks.read(bench, 1, "[C,C,A]."));
        Checks.due("no more", "throws.IndexOutOfBoundsException", Checks.read(bench, 0, "_."));
        Checks.due("known ones", 5, Checks.read(bench, 2, "[A,C]."));
        Checks.due("broken first", "throws.UnsupportedOperationException", Checks.read(bench, 2, "[D,E,F}."));
        Checks.due("place", 6, bench.count(2));
        Checks.due("r out of range", "throws.IllegalArgumentException", Checks.read(bench, 8, "[D,E,F}."));
        Checks.due("r out of range", "throws.IllegalArgumentException", Checks.read(bench, -1, "a."));
        Checks.due("place stays", 6, bench.count(2));
        Checks.due("tape stays", 2, bench.count(0));
        bench.reset();
        Checks.due("200 variables", 401, Checks.read(bench, 0, "[" + Checks.repeated("_,", 199) + "_]."));
        bench.reset();
        Checks.due("201 variables", "throws.IndexOutOfBoundsException",
                Checks.read(bench, 0, "[" + Checks.repeated("_,", 200) + "_]."));
        Checks.due("none of them known", 401, Checks.read(bench, 0, "[" + Checks.repeated("_,", 199) + "_]."));
    }
}
