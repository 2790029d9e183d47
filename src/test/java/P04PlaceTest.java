/** Promise 4: place, at every kind of illness. */
public final class P04PlaceTest {
    public static void main(String[] args) {
        ends();
        charactersThatCannotStand();
        names();
        constructors();
        depths();
        latestCompile();
        Check.finish();
    }

    private static void ends() {
        for (String text : new String[] {"", "1+", "1-", "1*", "1<", "1~", "(", "(1", "B", "B(", "B(1", "C(1,", "C(1,2", "\\",
            "\\x", "a=", "a=1", "a=1;", "@", "@f", "@fx", "@fx=", "@fx=1", "@fx=1;", "?", "?1", "?1{", "?1{A", "?1{A:",
            "?1{A:1", "?1{A:1;", "?1{B", "?1{Bx", "?1{Bx:", "?1{Cx", "?1{A:1;E", "?1+", "?A{E:?E{A:1;}"}) {
            Check.ill(text, text.length());
        }
        Check.ill("  1  +  ", 2);
    }

    private static void charactersThatCannotStand() {
        for (char c = 33; c <= 126; c++) {
            boolean begins = c >= '0' && c <= '9' || c >= 'A' && c <= 'H' || c == '(' || c == '\\' || c == '@' || c == '?';
            boolean alone = c >= '0' && c <= '9' || c == 'A' || c == 'E';
            if (alone) {
                Check.well(String.valueOf(c));
            } else {
                Check.ill(String.valueOf(c), begins ? 1 : 0);
            }
            boolean goesOn = c >= '0' && c <= '9' || c >= 'A' && c <= 'H' || "(+-*<~".indexOf(c) >= 0;
            if (c >= '0' && c <= '9' || c == 'A' || c == 'E') {
                Check.well("1" + c);
            } else {
                Check.ill("1" + c, goesOn ? 2 : 1);
            }
        }
        Check.ill("1<2<3", 3);
        Check.ill("1~2<3", 3);
        Check.ill("1<2~3", 3);
        Check.ill("1++2", 2);
        Check.ill("()", 1);
        Check.ill("(1))", 3);
        Check.ill("1)", 1);
        Check.ill("1;", 1);
        Check.ill("1,2", 1);
        Check.ill("1=2", 1);
        Check.ill("a=;", 2);
        Check.ill("a==1;1", 2);
        Check.ill("a=1,1", 3);
        Check.ill("1 a=1;a", 1);
        Check.ill("1\\x x", 1);
        Check.ill("1+\\x x", 2);
        Check.ill("1@fx=1;1", 1);
        Check.ill("1+?1{A:1;}", 2);
        Check.ill("?1{A:1;}+1", 8);
        Check.ill("?1{A:1;}1", 8);
        Check.ill("??1{A:1;}{A:1;}", 1);
        Check.ill("?\\x x{A:1;}", 1);
        Check.ill("?a=1;a{A:1;}", 1);
        Check.ill("?1{}", 3);
        Check.ill("?1{1:1;}", 3);
        Check.ill("?1{a:1;}", 3);
        Check.ill("?1{I:1;}", 3);
        Check.ill("?1{A1;}", 4);
        Check.ill("?1{A::1;}", 5);
        Check.ill("?1{A:1}", 6);
        Check.ill("?1{A:1,}", 6);
        Check.ill("?1{A:1;;}", 7);
        Check.ill("?1(A:1;}", 4);
        Check.well("?1{A:1;}");
        Check.well("(?1{A:1;})+1");
        Check.well("a=?1{A:1;};a");
    }

    private static void names() {
        Check.ill("x", 0);
        Check.ill("x+1", 0);
        Check.ill("\\xy", 2);
        Check.ill("\\X", 1);
        Check.ill("\\1", 1);
        Check.ill("\\\\xx", 1);
        Check.ill("a=a;a", 2);
        Check.ill("a=1;b", 4);
        Check.ill("a=1;ab", 5);
        Check.ill("(a=1;a)+a", 8);
        Check.ill("(\\x x)x", 5);
        Check.ill("C(a=1;a,a)", 8);
        Check.ill("a=\\x x;x", 6);
        Check.ill("@ff=1;2", 2);
        Check.ill("@f1=1;2", 2);
        Check.ill("@1x=1;2", 1);
        Check.ill("@fxx=1;2", 3);
        Check.ill("@f=1;2", 2);
        Check.ill("@fx=fx;x", 7);
        Check.ill("@fx=fy;f", 5);
        Check.ill("x=1;x=2", 7);
        Check.ill("\\x x=1", 5);
        Check.ill("\\x 1 x=1;x", 4);
        Check.ill("?1{Bx:x;A:x;}", 10);
        Check.ill("?1{Bx:x;}x", 9);
        Check.ill("(?1{Bx:x;})x", 11);
        Check.ill("?x{Bx:x;}", 1);
        Check.ill("?1{Bx:y;}", 6);
        Check.ill("?1{Cxx:1;}", 5);
        Check.ill("?1{Dxyx:1;}", 6);
        Check.ill("?1{Dxyy:1;}", 6);
        Check.ill("?1{Dxxy:1;}", 5);
        Check.ill("?1{Bxy:1;}", 5);
        Check.ill("?1{Cx:1;}", 5);
        Check.ill("?1{Ax:1;}", 4);
        Check.ill("\\x?x{Cxx:1;}", 7);
        Check.well("\\x?x{Cxy:x;Bx:x;Dyxz:z;}");
        Check.well("x=1;x=2;x");
        Check.well("@fx=fx;@fx=x;f");
        Check.well("\\f@gf=f;g f");
        Check.well("x=1;@fx=x;x");
        Check.well("x=1;C(x,x=2;x)");
    }

    private static void constructors() {
        Check.ill("I", 0);
        Check.ill("Z", 0);
        Check.ill("B1", 1);
        Check.ill("B()", 2);
        Check.ill("B(1,2)", 3);
        Check.ill("C(1)", 3);
        Check.ill("C(1,2,3)", 5);
        Check.ill("C(1;2)", 3);
        Check.ill("D(1,2)", 5);
        Check.ill("D(1,2,3,4)", 7);
        Check.ill("H(1,2,,)", 6);
        Check.ill("A()", 2);
        Check.ill("F+1", 1);
        Check.ill("?1{A:1;A:2;}", 7);
        Check.ill("?1{A:1;E:2;A:2;}", 11);
        Check.ill("?1{Bx:1;By:2;}", 8);
        Check.ill("?1{A:1;Bb:2;Cbc:3;Dbcd:4;E:5;Ff:6;Ghi:7;Hijk:8;A:1;}", 47);
        Check.ill("?1{A:1;Bb:2;Cbc:3;Dbcd:4;E:5;Ff:6;Ghi:7;Hijk:8;", 47);
        Check.well("?1{E:?2{E:1;};A:1;}");
    }

    private static void depths() {
        Check.well("(((((1)))))");
        Check.ill("((((((1))))))", 6);
        Check.ill("((((((", 6);
        Check.ill("((((((+", 6);
        Check.well("B(B(B(B(B(1)))))");
        Check.ill("B(B(B(B(B(B(1))))))", 12);
        Check.well("B(B(B(B(C(1,2)))))");
        Check.ill("B(B(B(B(C(1,B(2))))))", 14);
        Check.well("a=b=c=d=e=1;1;1;1;1;1");
        Check.ill("a=b=c=d=e=f=1;1;1;1;1;1;1", 12);
        Check.ill("a=b=c=d=e=(1);1;1;1;1;1", 11);
        Check.well("@ab=@cd=@ef=@gh=@ij=1;1;1;1;1;1");
        Check.ill("@ab=@cd=@ef=@gh=@ij=@kl=1;1;1;1;1;1;1", 24);
        Check.well("?A{A:?A{A:?A{A:?A{A:?A{A:1;};};};};}");
        Check.ill("?A{A:?A{A:?A{A:?A{A:?A{A:?A{A:1;};};};};};}", 30);
        Check.well("?(((((1))))){A:1;}");
        Check.well(Check.repeated("\\x", 20) + "(((((x)))))");
        Check.ill("(((((\\x(x))))))", 8);
        Check.ill("(((((a=1;a)))))", 7);
        Check.ill("(((((?A{A:1;})))))", 10);
        Check.ill("(((((A(1))))))", 7);
    }

    private static void latestCompile() {
        ClosureHeap x = new ClosureHeap(100);
        Check.due("none yet", x.place(), ClosureHeap.NONE);
        Check.type(x, "1)");
        Check.due("not compiled yet", x.place(), ClosureHeap.NONE);
        Check.dueThrown("ill", x::compile, Check.ILLEGAL_ARGUMENT);
        Check.due("ill", x.place(), 1);
        Check.type(x, "12");
        Check.due("still of the latest compile", x.place(), 1);
        Check.due("well", x.compile(), 2);
        Check.due("well", x.place(), ClosureHeap.NONE);
        x.run(5);
        Check.dueThrown("no text", x::compile, Check.ILLEGAL_ARGUMENT);
        Check.due("no text", x.place(), 0);
        Check.type(x, "\\x@fy=1)");
        Check.dueThrown("ill where names are bound", x::compile, Check.ILLEGAL_ARGUMENT);
        Check.due("ill", x.place(), 7);
        for (String name : new String[] {"x", "f", "y"}) {
            Check.type(x, name);
            Check.dueThrown("no name is bound any more", x::compile, Check.ILLEGAL_ARGUMENT);
            Check.due("place of " + name, x.place(), 0);
        }
        Check.recompile(x, "\\z z");
        Check.due("no name was bound before z", x.code(2, 1), 0);
    }
}
