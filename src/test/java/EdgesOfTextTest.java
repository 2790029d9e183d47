/** The sentences of 'Terms' about the text and its grammar that name a boundary case, a method for each. */
public final class EdgesOfTextTest {
    private static final String[] FIELDS = {"", "(1)", "(1,2)", "(1,2,3)"};

    public static void main(String[] args) {
        atMostNinetyCharacters();
        codes();
        blanks();
        names();
        constructors();
        numerals();
        anyNumberOfHeads();
        twoNamesThatDiffer();
        nameWithSignBehindIt();
        oneComparison();
        sumsAndProducts();
        oneOrMoreAtoms();
        soManyFields();
        parentheses();
        asManyDigitsAsItCan();
        oneOrMoreCases();
        asManyNamesAsFields();
        noNameTwice();
        noConstructorTwice();
        Check.finish();
    }

    private static boolean isName(char c) {
        return c >= 'a' && c <= 'z';
    }

    private static void atMostNinetyCharacters() {
        Check.sentence("THE TEXT has at most 90 characters");
        // 23 numerals, the last one of two digits, which come first in the code
        ClosureHeap x = new ClosureHeap(100);
        Check.type(x, Check.repeated("1", 90));
        Check.due("the 91st", x.write('1'), false);
        Check.due("the 92nd", x.write('+'), false);
        Check.due("instructions", x.compile(), 23 + 22 + 22 + 1);
        Check.due("the last numeral", x.code(0, 1), 11);
        Check.due("the text is empty then", x.write('5'), true);
        Check.due("instructions", x.compile(), 2);
        Check.due("numeral", x.code(0, 1), 5);
        Check.type(x, Check.repeated("1+", 45));
        Check.due("the 91st", x.write('1'), false);
        Check.dueThrown("it ends too early", x::compile, Check.ILLEGAL_ARGUMENT);
        Check.due("place", x.place(), 90);
        Check.type(x, Check.repeated(" ", 89) + "8");
        Check.due("the 91st, of which 89 are blanks", x.write('1'), false);
        Check.due("instructions", x.compile(), 2);
        Check.due("numeral", x.code(0, 1), 8);
    }

    private static void codes() {
        Check.sentence("with codes 32 .. 126");
        ClosureHeap x = new ClosureHeap(100);
        for (int code : new int[] {0, 9, 10, 31, 127, 128, 160, 255, 256, 256 + 49, 32768, 65535}) {
            Check.due("write of " + code, x.write((char) code), false);
        }
        Check.dueThrown("none of them is in the text", x::compile, Check.ILLEGAL_ARGUMENT);
        Check.due("its place", x.place(), 0);
        for (int code = 32; code <= 126; code++) {
            Check.due("write of " + code, new ClosureHeap(100).write((char) code), true);
        }
        Check.type(x, "1~1 ");
        Check.due("126 and 32", x.compile(), 5);
    }

    private static void blanks() {
        Check.sentence("blanks (32) are left out, places are counted without them");
        Check.code(" 1 2 3 4 ", "NUMBER:1234 HALT");
        Check.code("1 2 3 4 5", "NUMBER:5 PUSH NUMBER:1234 APPLY HALT");
        Check.code(" a = 1 ; a ", "NUMBER:1 BIND ACCESS UNBIND:1 HALT");
        Check.code("\\ x x", "CLOSURE:2 JUMP:4 ACCESS RETURN HALT");
        Check.code(" ? B ( 1 ) { B x : x ; } ", "NUMBER:1 MAKE:1 SWITCH:1 CASE:1:4 OPEN:1 ACCESS UNBIND:1 JUMP:8 HALT");
        Check.ill(" ", 0);
        Check.ill(Check.repeated(" ", 90), 0);
        Check.ill("  )", 0);
        Check.ill(" 1 )", 1);
        Check.ill("  1  +  ", 2);
        Check.ill(" @ f f = 1 ; 2", 2);
        Check.ill(" ( ( ( ( ( ( 1 ) ) ) ) ) ) ", 6);
        Check.ill("? A { A : 1 ; A : 2 ; }", 7);
    }

    private static void names() {
        Check.sentence("NAMES are a .. z");
        for (char c = 33; c <= 126; c++) {
            if (isName(c)) {
                Check.code("\\" + c + c, "CLOSURE:2 JUMP:4 ACCESS RETURN HALT");
                Check.code(c + "=1;" + c, "NUMBER:1 BIND ACCESS UNBIND:1 HALT");
            } else {
                Check.ill("\\" + c + "1", 1);
                Check.ill("@" + c + "x=1;1", 1);
                Check.ill("@f" + c + "=1;1", 2);
                Check.ill("?A{B" + c + ":1;}", 4);
            }
        }
    }

    private static void constructors() {
        Check.sentence("CONSTRUCTORS A .. H have the TAGS 0 .. 7 and tag modulo 4 FIELDS");
        for (char c = 'A'; c <= 'H'; c++) {
            int tag = c - 'A';
            int fields = tag % 4;
            ClosureHeap x = Check.compiled(100, c + FIELDS[fields]);
            int last = 2 * fields - (fields == 0 ? 0 : 1);
            Check.due("kind of " + c, x.code(last, 0), Check.kindOf(fields == 0 ? "TAG" : "MAKE"));
            Check.due("tag of " + c, x.code(last, 1), tag);
            Check.due("HALT behind " + c, x.code(last + 1, 0), 0);
            x.run(500);
            Check.due("value of " + c, x.value(0), tag);
            Check.due("words of " + c, x.used(), fields == 0 ? 0 : 1 + fields);
            if (fields > 0) {
                Check.ill(c + "+1", 1);
            }
        }
        for (char c = 'I'; c <= 'Z'; c++) {
            Check.ill(String.valueOf(c), 0);
            Check.ill(c + "(1)", 0);
            Check.ill("?A{" + c + ":1;}", 3);
        }
    }

    private static void numerals() {
        Check.sentence("a NUMERAL is one to four digits");
        Check.code("0", "NUMBER HALT");
        Check.code("9", "NUMBER:9 HALT");
        Check.code("0000", "NUMBER HALT");
        Check.code("0012", "NUMBER:12 HALT");
        Check.code("9999", "NUMBER:9999 HALT");
        Check.code("10000", "NUMBER PUSH NUMBER:1000 APPLY HALT");
        Check.ill("/", 0);
        Check.ill(":", 0);
        Check.ill("1/", 1);
        Check.ill("1:", 1);
    }

    private static void asManyDigitsAsItCan() {
        Check.sentence("A numeral takes as many digits as it can");
        Check.code("12", "NUMBER:12 HALT");
        Check.code("123", "NUMBER:123 HALT");
        Check.code("1234", "NUMBER:1234 HALT");
        Check.code("12345", "NUMBER:5 PUSH NUMBER:1234 APPLY HALT");
        Check.code("12345678", "NUMBER:5678 PUSH NUMBER:1234 APPLY HALT");
        Check.code("123456789", "NUMBER:9 PUSH NUMBER:5678 PUSH NUMBER:1234 APPLY APPLY HALT");
        Check.code("1A2", "NUMBER:2 PUSH TAG PUSH NUMBER:1 APPLY APPLY HALT");
    }

    private static void anyNumberOfHeads() {
        Check.sentence("any number of HEADS, and then a comparison or a match");
        Check.code("1", "NUMBER:1 HALT");
        Check.due("39 functions", countOf(Check.repeated("\\x", 39) + "x"), 3 * 39 + 2);
        Check.due("22 names", countOf(Check.repeated("a=1;", 22) + "a"), 3 * 22 + 2);
        Check.due("14 functions with names", countOf(Check.repeated("@fx=1;", 14) + "f"), 6 * 14 + 2);
        Check.due("heads of all kinds", countOf("\\xa=1;@fy=1;\\za=2;?a{A:1;}"), 3 + 3 + 6 + 3 + 3 + 5 + 1);
        for (String heads : new String[] {"\\x", "a=1;", "@fx=1;", "\\x\\y", "a=1;b=2;", "@fx=1;\\x"}) {
            Check.ill(heads, heads.length());
            Check.ill("(" + heads + ")", heads.length() + 1);
        }
    }

    private static int countOf(String text) {
        ClosureHeap x = new ClosureHeap(100);
        Check.type(x, text);
        int[] count = {-1};
        Check.thrown(() -> count[0] = x.compile());
        return count[0];
    }

    private static void twoNamesThatDiffer() {
        Check.sentence("@ , two names that differ, = , an expression, ;");
        Check.well("@fx=1;2");
        Check.well("@xf=1;2");
        Check.ill("@ff=1;2", 2);
        Check.ill("@aa=1;2", 2);
        Check.ill("@zz", 2);
        Check.ill("@f", 2);
        Check.ill("@f=1;2", 2);
        Check.ill("@fxy=1;2", 3);
        Check.ill("@fx1;2", 3);
        Check.ill("@fx=;2", 4);
        Check.ill("@fx=1", 5);
        Check.ill("@fx=1)", 5);
    }

    private static void nameWithSignBehindIt() {
        Check.sentence("A name with = behind it begins a head, where one may stand");
        Check.code("\\a a=1;a", "CLOSURE:2 JUMP:7 NUMBER:1 BIND ACCESS UNBIND:1 RETURN HALT");
        Check.well("a=1;b=2;a");
        Check.well("a=b=1;b;a");
        Check.well("@fx=a=1;a;f");
        Check.well("(a=1;a)");
        Check.well("B(a=1;a)");
        Check.well("C(a=1;a,a=1;a)");
        Check.well("?A{A:a=1;a;}");
        Check.ill("\\a a 1=1;a", 4);
        Check.ill("\\a1+a=1;a", 5);
        Check.ill("\\a1*a=1;a", 5);
        Check.ill("\\a1<a=1;a", 5);
        Check.ill("\\a1a=1;a", 4);
        Check.ill("\\a?a=1;a{A:1;}", 4);
        Check.ill("1a=1;a", 1);
        Check.ill("?a=1;a{A:1;}", 1);
        Check.ill("a==1;1", 2);
        Check.ill("a=", 2);
    }

    private static void oneComparison() {
        Check.sentence("comparison: a sum, or two with < or ~ between");
        Check.code("1", "NUMBER:1 HALT");
        Check.code("1<2", "NUMBER:1 PUSH NUMBER:2 LESS HALT");
        Check.code("1~2", "NUMBER:1 PUSH NUMBER:2 SAME HALT");
        Check.code("1<(2~3)", "NUMBER:1 PUSH NUMBER:2 PUSH NUMBER:3 SAME LESS HALT");
        for (String two : new String[] {"1<2", "1~2", "1+1<2*2"}) {
            Check.ill(two + "<3", two.length());
            Check.ill(two + "~3", two.length());
            Check.ill("?" + two + "<3{A:1;}", two.length() + 1);
        }
        Check.ill("<1", 0);
        Check.ill("1<", 2);
        Check.ill("1<~1", 2);
        Check.ill("(1<)", 3);
    }

    private static void sumsAndProducts() {
        Check.sentence("sum: products with + or - between. product: applications with * between");
        Check.well(Check.repeated("1+", 39) + "1");
        Check.well(Check.repeated("1-", 39) + "1");
        Check.well(Check.repeated("1*", 39) + "1");
        for (String sign : new String[] {"+", "-", "*"}) {
            Check.ill(sign + "1", 0);
            Check.ill("1" + sign, 2);
            Check.ill("(1" + sign + ")", 3);
            Check.ill("1" + sign + sign + "1", 2);
            Check.ill("1" + sign + "<1", 2);
        }
    }

    private static void oneOrMoreAtoms() {
        Check.sentence("application: one or more atoms, one behind the other");
        Check.ill("", 0);
        Check.ill("()", 1);
        Check.ill("B()", 2);
        Check.ill("a=;1", 2);
        Check.ill("?{A:1;}", 1);
        Check.ill("?A{A:;}", 5);
        Check.due("one", countOf("\\f f"), 2 + 1 + 2);
        Check.due("two", countOf("\\f f f"), 2 + 1 + 3 + 2);
        Check.due("39", countOf("\\f" + Check.repeated("f", 39)), 2 + 1 + 3 * 38 + 2);
        Check.code("1A(2)", "NUMBER:2 PUSH TAG PUSH NUMBER:1 APPLY APPLY HALT");
    }

    private static void soManyFields() {
        Check.sentence("a constructor, and if it has fields ( , so many expressions with , between, and )");
        for (char c = 'A'; c <= 'H'; c++) {
            int fields = (c - 'A') % 4;
            for (int given = 1; given <= 3; given++) {
                String text = c + FIELDS[given];
                if (given == fields || given == 1 && fields == 0) {
                    Check.well(text);
                } else if (given < fields) {
                    Check.ill(text, text.length() - 1);
                } else {
                    Check.ill(text, 1 + 2 * Math.max(1, fields));
                }
            }
            Check.ill(c + "()", 2);
            Check.ill(c + "(1", 3);
            if (fields > 0) {
                Check.ill(String.valueOf(c), 1);
                Check.ill(c + "1", 1);
                Check.ill(c + ",", 1);
            }
        }
        Check.ill("C(1;2)", 3);
        Check.ill("C(,1)", 2);
        Check.ill("C(1,)", 4);
        Check.ill("D(1,2,3;", 7);
        Check.code("A(1)", "NUMBER:1 PUSH TAG APPLY HALT");
        Check.ill("A(1,2)", 3);
    }

    private static void parentheses() {
        Check.sentence("( , an expression and )");
        Check.code("(1)", "NUMBER:1 HALT");
        Check.ill("(1", 2);
        Check.ill("1)", 1);
        Check.ill("(1))", 3);
        Check.ill(")", 0);
        Check.ill("(1,2)", 2);
        Check.ill("(1;", 2);
    }

    private static void oneOrMoreCases() {
        Check.sentence("match: ? , a comparison, { , one or more CASES, }");
        Check.ill("?1{}", 3);
        Check.ill("?1{", 3);
        Check.ill("?1", 2);
        Check.ill("?1}", 2);
        Check.ill("?1{A:1;", 7);
        Check.well("?1{A:1;}");
        Check.well("?1{A:1;Bb:2;Cbc:3;Dbcd:4;E:5;Ff:6;Ghi:7;Hijk:8;}");
        Check.well("?1{Habc:1;Gab:1;Fa:1;E:1;Dabc:1;Cab:1;Ba:1;A:1;}");
        Check.ill("?1{A:1}", 6);
        Check.ill("?1{A1;}", 4);
        Check.ill("?1{:1;}", 3);
        Check.ill("?1{A:1;}1", 8);
        Check.ill("?1{A:1;}+1", 8);
        Check.ill("?1{A:1;}<1", 8);
    }

    private static void asManyNamesAsFields() {
        Check.sentence("a constructor, as many names as it has fields");
        String names = "wxyz";
        for (char c = 'A'; c <= 'H'; c++) {
            int fields = (c - 'A') % 4;
            for (int given = 0; given <= 4; given++) {
                String text = "?1{" + c + names.substring(0, given) + ":1;}";
                if (given == fields) {
                    Check.well(text);
                } else {
                    Check.ill(text, 4 + Math.min(fields, given));
                }
            }
        }
    }

    private static void noNameTwice() {
        Check.sentence("names .. none twice");
        Check.well("?1{Cab:1;}");
        Check.ill("?1{Caa:1;}", 5);
        Check.ill("?1{Gzz:1;}", 5);
        Check.ill("?1{Daab:1;}", 5);
        Check.ill("?1{Daba:1;}", 6);
        Check.ill("?1{Dabb:1;}", 6);
        Check.ill("?1{Haaa:1;}", 5);
        Check.ill("\\a?1{Cba:1;Daba:1;}", 14);
        // another case, or what is bound around, may have the same name
        Check.well("?1{Cab:1;Dbca:1;Ba:1;}");
        Check.well("\\a\\b?1{Cab:1;}");
        Check.well("?1{Cab:?1{Cab:1;};}");
    }

    private static void noConstructorTwice() {
        Check.sentence("No constructor has two cases");
        String[] cases = {"A:1;", "Bb:1;", "Cbc:1;", "Dbcd:1;", "E:1;", "Fb:1;", "Gbc:1;", "Hbcd:1;"};
        for (int i = 0; i < cases.length; i++) {
            Check.ill("?1{" + cases[i] + cases[i] + "}", 3 + cases[i].length());
            for (int k = 0; k < cases.length; k++) {
                if (i != k) {
                    Check.well("?1{" + cases[i] + cases[k] + "}");
                    Check.ill("?1{" + cases[i] + cases[k] + cases[i] + "}", 3 + cases[i].length() + cases[k].length());
                }
            }
            String all = String.join("", cases);
            Check.ill("?1{" + all + cases[i] + "}", 3 + all.length());
        }
        Check.well("?1{A:?1{A:1;};E:?1{A:1;E:1;};}");
        Check.well("?(?1{A:1;}){A:1;}");
    }
}
