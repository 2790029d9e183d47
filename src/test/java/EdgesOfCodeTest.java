/** The sentences of 'Terms' about the code that name a boundary case, a method for each. */
public final class EdgesOfCodeTest {
    public static void main(String[] args) {
        zeroIfNotSaid();
        expressionAndHalt();
        namesBehind();
        operationsFromTheLeft();
        applicationOfMany();
        constructorsWithoutFields();
        pushBetweenFields();
        functionPlaces();
        matchCases();
        openOnlyWithFields();
        Check.finish();
    }

    private static void zeroIfNotSaid() {
        Check.sentence("INSTRUCTIONS with a number a and a number b (0 if not said)");
        // a long code before it, so that numbers of it would be seen if they stayed
        ClosureHeap x = Check.compiled(100, "?1{A:9999;Bb:9999;Cbc:9999;Dbcd:9999;E:9999;Ff:9999;Ghi:9999;Hijk:9999;}");
        Check.recompile(x, "@fx=1+2-3*4<5;\\y a=B(f 6);?a~7{Bz:D(z,A,8);E:y;}");
        boolean[] seen = new boolean[21];
        for (int k = 0; x.code(k, 0) != ClosureHeap.NONE; k++) {
            int kind = x.code(k, 0);
            seen[kind] = true;
            if (kind == 0 || kind >= 3 && kind <= 8 || kind >= 12 && kind <= 14) {
                Check.due("a of instruction " + k + " of kind " + kind, x.code(k, 1), 0);
            }
            if (kind != 19) {
                Check.due("b of instruction " + k + " of kind " + kind, x.code(k, 2), 0);
            }
        }
        for (int kind = 0; kind < seen.length; kind++) {
            Check.due("kind " + kind + " was there", seen[kind], true);
        }
    }

    private static void expressionAndHalt() {
        Check.sentence("The code of the text is that of its expression and HALT");
        Check.code("0", "NUMBER HALT");
        Check.code("A", "TAG HALT");
        Check.code("(((((0)))))", "NUMBER HALT");
    }

    private static void namesBehind() {
        Check.sentence("ACCESS, a how many names were bound behind it, that are bound still");
        String heads = "a=1;b=1;c=1;d=1;e=1;f=1;g=1;h=1;i=1;j=1;k=1;l=1;m=1;n=1;o=1;p=1;q=1;r=1;s=1;t=1;";
        for (int i = 0; i < 20; i++) {
            ClosureHeap x = Check.compiled(100, heads + (char) ('a' + i));
            Check.due("kind", x.code(40, 0), Check.kindOf("ACCESS"));
            Check.due("a of name " + i + " of 20", x.code(40, 1), 19 - i);
        }
        ClosureHeap most = Check.compiled(100, "a=1;" + Check.repeated("\\x", 37) + "a");
        Check.due("behind 37", most.code(2 + 2 * 37, 1), 37);
        Check.code("a=1;b=(c=2;c);a", "NUMBER:1 BIND NUMBER:2 BIND ACCESS UNBIND:1 BIND ACCESS:1 UNBIND:1 UNBIND:1 HALT");
        Check.code("a=1;@fx=1;a", "NUMBER:1 BIND SELF:4 JUMP:6 NUMBER:1 RETURN BIND ACCESS:1 UNBIND:1 UNBIND:1 HALT");
        Check.code("a=1;@fx=a;1", "NUMBER:1 BIND SELF:4 JUMP:6 ACCESS:2 RETURN BIND NUMBER:1 UNBIND:1 UNBIND:1 HALT");
        Check.code("\\a?A{Dbcd:a;A:a;}", "CLOSURE:2 JUMP:13 TAG SWITCH:2 CASE:3:6 CASE:0:10 OPEN:3 ACCESS:3 UNBIND:3 JUMP:12 "
            + "ACCESS JUMP:12 RETURN HALT");
    }

    private static void operationsFromTheLeft() {
        Check.sentence("Operations in a sum, product or comparison, from the left");
        Check.code("1-2-3", "NUMBER:1 PUSH NUMBER:2 SUBTRACT PUSH NUMBER:3 SUBTRACT HALT");
        Check.code("1-(2-3)", "NUMBER:1 PUSH NUMBER:2 PUSH NUMBER:3 SUBTRACT SUBTRACT HALT");
        Check.code("1*2*3", "NUMBER:1 PUSH NUMBER:2 MULTIPLY PUSH NUMBER:3 MULTIPLY HALT");
        Check.code("1+2*3<4-5", "NUMBER:1 PUSH NUMBER:2 PUSH NUMBER:3 MULTIPLY ADD PUSH NUMBER:4 PUSH NUMBER:5 SUBTRACT LESS "
            + "HALT");
        Check.code("1~2", "NUMBER:1 PUSH NUMBER:2 SAME HALT");
    }

    private static void applicationOfMany() {
        Check.sentence("An application of f to x1 .. xn: xn, PUSH, .., x1, PUSH, f, and n times APPLY");
        Check.code("A", "TAG HALT");
        Check.code("A 1", "NUMBER:1 PUSH TAG APPLY HALT");
        Check.code("A 1A", "TAG PUSH NUMBER:1 PUSH TAG APPLY APPLY HALT");
        Check.code("A(1)(2)(3)(4)", "NUMBER:4 PUSH NUMBER:3 PUSH NUMBER:2 PUSH NUMBER:1 PUSH TAG APPLY APPLY APPLY APPLY HALT");
        Check.code("(A 1)2", "NUMBER:2 PUSH NUMBER:1 PUSH TAG APPLY APPLY HALT");
        Check.code("A(E 2)", "NUMBER:2 PUSH TAG:4 APPLY PUSH TAG APPLY HALT");
        // a function that is pushed first has its place at the beginning
        Check.code("(\\x x)(\\y 1)", "CLOSURE:2 JUMP:4 NUMBER:1 RETURN PUSH CLOSURE:7 JUMP:9 ACCESS RETURN APPLY HALT");
    }

    private static void constructorsWithoutFields() {
        Check.sentence("A constructor without fields: TAG, a its tag");
        Check.code("A", "TAG HALT");
        Check.code("E", "TAG:4 HALT");
        Check.code("A(1)", "NUMBER:1 PUSH TAG APPLY HALT");
        Check.code("E(1)", "NUMBER:1 PUSH TAG:4 APPLY HALT");
    }

    private static void pushBetweenFields() {
        Check.sentence("else its fields in order, PUSH between them, MAKE, a its tag");
        Check.code("B(1)", "NUMBER:1 MAKE:1 HALT");
        Check.code("C(1,2)", "NUMBER:1 PUSH NUMBER:2 MAKE:2 HALT");
        Check.code("D(1,2,3)", "NUMBER:1 PUSH NUMBER:2 PUSH NUMBER:3 MAKE:3 HALT");
        Check.code("F(1)", "NUMBER:1 MAKE:5 HALT");
        Check.code("G(1,2)", "NUMBER:1 PUSH NUMBER:2 MAKE:6 HALT");
        Check.code("H(1,2,3)", "NUMBER:1 PUSH NUMBER:2 PUSH NUMBER:3 MAKE:7 HALT");
    }

    private static void functionPlaces() {
        Check.sentence("CLOSURE, a the place of what comes after the next instruction; JUMP, a the place behind RETURN");
        Check.code("\\x 1", "CLOSURE:2 JUMP:4 NUMBER:1 RETURN HALT");
        Check.code("\\x\\y 1", "CLOSURE:2 JUMP:7 CLOSURE:4 JUMP:6 NUMBER:1 RETURN RETURN HALT");
        Check.code("\\x a=1;1", "CLOSURE:2 JUMP:7 NUMBER:1 BIND NUMBER:1 UNBIND:1 RETURN HALT");
        Check.code("a=1;\\x 1", "NUMBER:1 BIND CLOSURE:4 JUMP:6 NUMBER:1 RETURN UNBIND:1 HALT");
        Check.code("@fx=1;1", "SELF:2 JUMP:4 NUMBER:1 RETURN BIND NUMBER:1 UNBIND:1 HALT");
        Check.code("@fx=1;\\y 1", "SELF:2 JUMP:4 NUMBER:1 RETURN BIND CLOSURE:7 JUMP:9 NUMBER:1 RETURN UNBIND:1 HALT");
        ClosureHeap x = Check.compiled(100, Check.repeated("\\x", 39) + "1");
        Check.due("the outermost JUMP", x.code(1, 1), 118);
        Check.due("the innermost CLOSURE", x.code(76, 1), 78);
        Check.due("the innermost JUMP", x.code(77, 1), 80);
        Check.due("HALT", x.code(118, 0), 0);
    }

    private static void matchCases() {
        Check.sentence("SWITCH, a how many cases; for each case in order CASE, a its tag, b the place of its code");
        Check.code("?A{E:1;}", "TAG SWITCH:1 CASE:4:3 NUMBER:1 JUMP:5 HALT");
        Check.code("?A{E:1;A:2;}", "TAG SWITCH:2 CASE:4:4 CASE:0:6 NUMBER:1 JUMP:8 NUMBER:2 JUMP:8 HALT");
        ClosureHeap x = Check.compiled(100, "?A{Hijk:8;Ghi:7;Ff:6;E:5;Dbcd:4;Cbc:3;Bb:2;A:1;}");
        Check.due("eight cases", x.code(1, 1), 8);
        int place = 10;
        for (int i = 0; i < 8; i++) {
            int tag = 7 - i;
            Check.due("kind", x.code(2 + i, 0), Check.kindOf("CASE"));
            Check.due("tag", x.code(2 + i, 1), tag);
            Check.due("place", x.code(2 + i, 2), place);
            place += tag % 4 == 0 ? 2 : 4;
            Check.due("JUMP at its end", x.code(place - 1, 0), Check.kindOf("JUMP"));
            Check.due("behind the last of these codes", x.code(place - 1, 1), 38);
        }
        Check.due("HALT behind the last", x.code(38, 0), 0);
    }

    private static void openOnlyWithFields() {
        Check.sentence("OPEN, a how many fields (not if there are none), its expression, UNBIND, a the same (likewise)");
        Check.code("?A{A:1;}", "TAG SWITCH:1 CASE:0:3 NUMBER:1 JUMP:5 HALT");
        Check.code("?A{E:1;}", "TAG SWITCH:1 CASE:4:3 NUMBER:1 JUMP:5 HALT");
        String[] cases = {"Bx", "Cxy", "Dxyz", "Fx", "Gxy", "Hxyz"};
        for (String names : cases) {
            int tag = names.charAt(0) - 'A';
            int fields = names.length() - 1;
            Check.code("?A{" + names + ":1;}",
                "TAG SWITCH:1 CASE:" + tag + ":3 OPEN:" + fields + " NUMBER:1 UNBIND:" + fields + " JUMP:7 HALT");
        }
    }
}
