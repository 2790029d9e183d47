/** Promise 4: place, at every kind of illness. */
public final class P04PlaceTest {
    public static void main(String[] args) {
        ends();
        charactersThatCannotStand();
        names();
        constructors();
        depths();
        latestCompile();
        Check.finish();
    }

    private static void ill(String text, int want) {
        ClosureHeap x = new ClosureHeap(100);
        Check.type(x, text);
        Check.dueThrown("compile of " + text, x::compile, Check.ILLEGAL_ARGUMENT);
        Check.due("place of " + text, x.place(), want);
        Check.due("state of " + text, x.state(), 0);
    }

    private static void well(String text) {
        Check.due("place of " + text, Check.compiled(100, text).place(), ClosureHeap.NONE);
    }

    private static void ends() {
        for (String text : new String[] {"", "1+", "1-", "1*", "1<", "1~", "(", "(1", "B", "B(", "B(1", "C(1,", "C(1,2", "\\",
            "\\x", "a=", "a=1", "a=1;", "@", "@f", "@fx", "@fx=", "@fx=1", "@fx=1;", "?", "?1", "?1{", "?1{A", "?1{A:",
            "?1{A:1", "?1{A:1;", "?1{B", "?1{Bx", "?1{Bx:", "?1{Cx", "?1{A:1;E", "?1+", "?A{E:?E{A:1;}"}) {
            ill(text, text.length());
        }
        ill("  1  +  ", 2);
    }

    private static void charactersThatCannotStand() {
        for (char c = 33; c <= 126; c++) {
            boolean begins = c >= '0' && c <= '9' || c >= 'A' && c <= 'H' || c == '(' || c == '\\' || c == '@' || c == '?';
            boolean alone = c >= '0' && c <= '9' || c == 'A' || c == 'E';
            if (alone) {
                well(String.valueOf(c));
            } else {
                ill(String.valueOf(c), begins ? 1 : 0);
            }
            boolean goesOn = c >= '0' && c <= '9' || c >= 'A' && c <= 'H' || "(+-*<~".indexOf(c) >= 0;
            if (c >= '0' && c <= '9' || c == 'A' || c == 'E') {
                well("1" + c);
            } else {
                ill("1" + c, goesOn ? 2 : 1);
            }
        }
        ill("1<2<3", 3);
        ill("1~2<3", 3);
        ill("1<2~3", 3);
        ill("1++2", 2);
        ill("()", 1);
        ill("(1))", 3);
        ill("1)", 1);
        ill("1;", 1);
        ill("1,2", 1);
        ill("1=2", 1);
        ill("a=;", 2);
        ill("a==1;1", 2);
        ill("a=1,1", 3);
        ill("1 a=1;a", 1);
        ill("1\\x x", 1);
        ill("1+\\x x", 2);
        ill("1@fx=1;1", 1);
        ill("1+?1{A:1;}", 2);
        ill("?1{A:1;}+1", 8);
        ill("?1{A:1;}1", 8);
        ill("??1{A:1;}{A:1;}", 1);
        ill("?\\x x{A:1;}", 1);
        ill("?a=1;a{A:1;}", 1);
        ill("?1{}", 3);
        ill("?1{1:1;}", 3);
        ill("?1{a:1;}", 3);
        ill("?1{I:1;}", 3);
        ill("?1{A1;}", 4);
        ill("?1{A::1;}", 5);
        ill("?1{A:1}", 6);
        ill("?1{A:1,}", 6);
        ill("?1{A:1;;}", 7);
        ill("?1(A:1;}", 4);
        well("?1{A:1;}");
        well("(?1{A:1;})+1");
        well("a=?1{A:1;};a");
    }

    private static void names() {
        ill("x", 0);
        ill("x+1", 0);
        ill("\\xy", 2);
        ill("\\X", 1);
        ill("\\1", 1);
        ill("\\\\xx", 1);
        ill("a=a;a", 2);
        ill("a=1;b", 4);
        ill("a=1;ab", 5);
        ill("(a=1;a)+a", 8);
        ill("(\\x x)x", 5);
        ill("C(a=1;a,a)", 8);
        ill("a=\\x x;x", 6);
        ill("@ff=1;2", 2);
        ill("@f1=1;2", 2);
        ill("@1x=1;2", 1);
        ill("@fxx=1;2", 3);
        ill("@f=1;2", 2);
        ill("@fx=fx;x", 7);
        ill("@fx=fy;f", 5);
        ill("x=1;x=2", 7);
        ill("\\x x=1", 5);
        ill("\\x 1 x=1;x", 4);
        ill("?1{Bx:x;A:x;}", 10);
        ill("?1{Bx:x;}x", 9);
        ill("(?1{Bx:x;})x", 11);
        ill("?x{Bx:x;}", 1);
        ill("?1{Bx:y;}", 6);
        ill("?1{Cxx:1;}", 5);
        ill("?1{Dxyx:1;}", 6);
        ill("?1{Dxyy:1;}", 6);
        ill("?1{Dxxy:1;}", 5);
        ill("?1{Bxy:1;}", 5);
        ill("?1{Cx:1;}", 5);
        ill("?1{Ax:1;}", 4);
        ill("\\x?x{Cxx:1;}", 7);
        well("\\x?x{Cxy:x;Bx:x;Dyxz:z;}");
        well("x=1;x=2;x");
        well("@fx=fx;@fx=x;f");
        well("\\f@gf=f;g f");
        well("x=1;@fx=x;x");
        well("x=1;C(x,x=2;x)");
    }

    private static void constructors() {
        ill("I", 0);
        ill("Z", 0);
        ill("B1", 1);
        ill("B()", 2);
        ill("B(1,2)", 3);
        ill("C(1)", 3);
        ill("C(1,2,3)", 5);
        ill("C(1;2)", 3);
        ill("D(1,2)", 5);
        ill("D(1,2,3,4)", 7);
        ill("H(1,2,,)", 6);
        ill("A()", 2);
        ill("F+1", 1);
        ill("?1{A:1;A:2;}", 7);
        ill("?1{A:1;E:2;A:2;}", 11);
        ill("?1{Bx:1;By:2;}", 8);
        ill("?1{A:1;Bb:2;Cbc:3;Dbcd:4;E:5;Ff:6;Ghi:7;Hijk:8;A:1;}", 47);
        ill("?1{A:1;Bb:2;Cbc:3;Dbcd:4;E:5;Ff:6;Ghi:7;Hijk:8;", 47);
        well("?1{E:?2{E:1;};A:1;}");
    }

    private static void depths() {
        well("(((((1)))))");
        ill("((((((1))))))", 6);
        ill("((((((", 6);
        ill("((((((+", 6);
        well("B(B(B(B(B(1)))))");
        ill("B(B(B(B(B(B(1))))))", 12);
        well("B(B(B(B(C(1,2)))))");
        ill("B(B(B(B(C(1,B(2))))))", 14);
        well("a=b=c=d=e=1;1;1;1;1;1");
        ill("a=b=c=d=e=f=1;1;1;1;1;1;1", 12);
        ill("a=b=c=d=e=(1);1;1;1;1;1", 11);
        well("@ab=@cd=@ef=@gh=@ij=1;1;1;1;1;1");
        ill("@ab=@cd=@ef=@gh=@ij=@kl=1;1;1;1;1;1;1", 24);
        well("?A{A:?A{A:?A{A:?A{A:?A{A:1;};};};};}");
        ill("?A{A:?A{A:?A{A:?A{A:?A{A:?A{A:1;};};};};};}", 30);
        well("?(((((1))))){A:1;}");
        well(Check.repeated("\\x", 20) + "(((((x)))))");
        ill("(((((\\x(x))))))", 8);
        ill("(((((a=1;a)))))", 7);
        ill("(((((?A{A:1;})))))", 10);
        ill("(((((A(1))))))", 7);
    }

    private static void latestCompile() {
        ClosureHeap x = new ClosureHeap(100);
        Check.due("none yet", x.place(), ClosureHeap.NONE);
        Check.type(x, "1)");
        Check.due("not compiled yet", x.place(), ClosureHeap.NONE);
        Check.dueThrown("ill", x::compile, Check.ILLEGAL_ARGUMENT);
        Check.due("ill", x.place(), 1);
        Check.type(x, "12");
        Check.due("still of the latest compile", x.place(), 1);
        Check.due("well", x.compile(), 2);
        Check.due("well", x.place(), ClosureHeap.NONE);
        x.run(5);
        Check.dueThrown("no text", x::compile, Check.ILLEGAL_ARGUMENT);
        Check.due("no text", x.place(), 0);
        Check.type(x, "\\x@fy=1)");
        Check.dueThrown("ill where names are bound", x::compile, Check.ILLEGAL_ARGUMENT);
        Check.due("ill", x.place(), 7);
        for (String name : new String[] {"x", "f", "y"}) {
            Check.type(x, name);
            Check.dueThrown("no name is bound any more", x::compile, Check.ILLEGAL_ARGUMENT);
            Check.due("place of " + name, x.place(), 0);
        }
        Check.recompile(x, "\\z z");
        Check.due("no name was bound before z", x.code(2, 1), 0);
    }
}
