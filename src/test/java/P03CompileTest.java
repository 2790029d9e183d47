/** Promise 3: compile, and the code that the document gives each expression. */
public final class P03CompileTest {
    public static void main(String[] args) {
        atomsAndOperations();
        heads();
        matches();
        manyInstructions();
        allStaysIfIll();
        beginsAnew();
        Check.finish();
    }

    private static void atomsAndOperations() {
        Check.code("0", "NUMBER HALT");
        Check.code("0007", "NUMBER:7 HALT");
        Check.code("9999", "NUMBER:9999 HALT");
        Check.code("12345", "NUMBER:5 PUSH NUMBER:1234 APPLY HALT");
        Check.code("123456789", "NUMBER:9 PUSH NUMBER:5678 PUSH NUMBER:1234 APPLY APPLY HALT");
        Check.code("(1)", "NUMBER:1 HALT");
        Check.code("(((((1)))))", "NUMBER:1 HALT");
        Check.code("A", "TAG HALT");
        Check.code("E", "TAG:4 HALT");
        Check.code("A(1)", "NUMBER:1 PUSH TAG APPLY HALT");
        Check.code("B(1)", "NUMBER:1 MAKE:1 HALT");
        Check.code("C(1,2)", "NUMBER:1 PUSH NUMBER:2 MAKE:2 HALT");
        Check.code("D(1,2,3)", "NUMBER:1 PUSH NUMBER:2 PUSH NUMBER:3 MAKE:3 HALT");
        Check.code("F(1)", "NUMBER:1 MAKE:5 HALT");
        Check.code("G(1,A)", "NUMBER:1 PUSH TAG MAKE:6 HALT");
        Check.code("H(1,2,E)", "NUMBER:1 PUSH NUMBER:2 PUSH TAG:4 MAKE:7 HALT");
        Check.code("B(1)2", "NUMBER:2 PUSH NUMBER:1 MAKE:1 APPLY HALT");
        Check.code("1+2-3", "NUMBER:1 PUSH NUMBER:2 ADD PUSH NUMBER:3 SUBTRACT HALT");
        Check.code("1-2*3+4", "NUMBER:1 PUSH NUMBER:2 PUSH NUMBER:3 MULTIPLY SUBTRACT PUSH NUMBER:4 ADD HALT");
        Check.code("2*3*4", "NUMBER:2 PUSH NUMBER:3 MULTIPLY PUSH NUMBER:4 MULTIPLY HALT");
        Check.code("1<2", "NUMBER:1 PUSH NUMBER:2 LESS HALT");
        Check.code("1+1~2", "NUMBER:1 PUSH NUMBER:1 ADD PUSH NUMBER:2 SAME HALT");
        Check.code("(1<2)~3", "NUMBER:1 PUSH NUMBER:2 LESS PUSH NUMBER:3 SAME HALT");
        Check.code("2*A 3", "NUMBER:2 PUSH NUMBER:3 PUSH TAG APPLY MULTIPLY HALT");
    }

    private static void heads() {
        Check.code("\\x x", "CLOSURE:2 JUMP:4 ACCESS RETURN HALT");
        Check.code("\\x\\y x", "CLOSURE:2 JUMP:7 CLOSURE:4 JUMP:6 ACCESS:1 RETURN RETURN HALT");
        Check.code("\\x\\x x", "CLOSURE:2 JUMP:7 CLOSURE:4 JUMP:6 ACCESS RETURN RETURN HALT");
        Check.code("x=1;x", "NUMBER:1 BIND ACCESS UNBIND:1 HALT");
        Check.code("x=1;y=2;x-y", "NUMBER:1 BIND NUMBER:2 BIND ACCESS:1 PUSH ACCESS SUBTRACT UNBIND:1 UNBIND:1 HALT");
        Check.code("x=1;x=x;x", "NUMBER:1 BIND ACCESS BIND ACCESS UNBIND:1 UNBIND:1 HALT");
        Check.code("@f x=f x;f", "SELF:2 JUMP:7 ACCESS PUSH ACCESS:1 APPLY RETURN BIND ACCESS UNBIND:1 HALT");
        Check.code("\\x y=x;y", "CLOSURE:2 JUMP:7 ACCESS BIND ACCESS UNBIND:1 RETURN HALT");
        Check.code("y=1;\\x@g z=x;y", "NUMBER:1 BIND CLOSURE:4 JUMP:12 SELF:6 JUMP:8 ACCESS:2 RETURN BIND ACCESS:2 UNBIND:1 "
            + "RETURN UNBIND:1 HALT");
        Check.code("x=y=1;y;x", "NUMBER:1 BIND ACCESS UNBIND:1 BIND ACCESS UNBIND:1 HALT");
        Check.code("(\\x x)(2)3", "NUMBER:3 PUSH NUMBER:2 PUSH CLOSURE:6 JUMP:8 ACCESS RETURN APPLY APPLY HALT");
        Check.code("x=1;(x=2;x)+x", "NUMBER:1 BIND NUMBER:2 BIND ACCESS UNBIND:1 PUSH ACCESS ADD UNBIND:1 HALT");
    }

    private static void matches() {
        Check.code("?1{A:2;}", "NUMBER:1 SWITCH:1 CASE:0:3 NUMBER:2 JUMP:5 HALT");
        Check.code("?1<2{E:3;A:4;}", "NUMBER:1 PUSH NUMBER:2 LESS SWITCH:2 CASE:4:7 CASE:0:9 NUMBER:3 JUMP:11 NUMBER:4 JUMP:11 "
            + "HALT");
        Check.code("?B(1){Bx:x;}", "NUMBER:1 MAKE:1 SWITCH:1 CASE:1:4 OPEN:1 ACCESS UNBIND:1 JUMP:8 HALT");
        Check.code("?A{Dabc:a;Ha b c:c;A:1;}", "TAG SWITCH:3 CASE:3:5 CASE:7:9 CASE:0:13 OPEN:3 ACCESS:2 UNBIND:3 JUMP:15 OPEN:3 "
            + "ACCESS UNBIND:3 JUMP:15 NUMBER:1 JUMP:15 HALT");
        Check.code("x=2;?x{Cxy:x;}", "NUMBER:2 BIND ACCESS SWITCH:1 CASE:2:5 OPEN:2 ACCESS:1 UNBIND:2 JUMP:9 UNBIND:1 HALT");
        Check.code("\\x?x{A:?x{E:1;};}", "CLOSURE:2 JUMP:12 ACCESS SWITCH:1 CASE:0:5 ACCESS SWITCH:1 CASE:4:8 NUMBER:1 JUMP:10 "
            + "JUMP:11 RETURN HALT");
        Check.code("?A{A:1;Bb:2;Cbc:3;Dbcd:4;E:5;Ff:6;Ghi:7;Hijk:8;}",
            "TAG SWITCH:8 CASE:0:10 CASE:1:12 CASE:2:16 CASE:3:20 CASE:4:24 CASE:5:26 CASE:6:30 CASE:7:34 NUMBER:1 JUMP:38 "
            + "OPEN:1 NUMBER:2 UNBIND:1 JUMP:38 OPEN:2 NUMBER:3 UNBIND:2 JUMP:38 OPEN:3 NUMBER:4 UNBIND:3 JUMP:38 "
            + "NUMBER:5 JUMP:38 OPEN:1 NUMBER:6 UNBIND:1 JUMP:38 OPEN:2 NUMBER:7 UNBIND:2 JUMP:38 OPEN:3 NUMBER:8 "
            + "UNBIND:3 JUMP:38 HALT");
    }

    private static void manyInstructions() {
        ClosureHeap most = new ClosureHeap(100);
        Check.type(most, "B(1)+" + Check.repeated("1+", 38) + "1");
        Check.due("120 instructions", most.compile(), 120);
        Check.due("the last one", most.code(119, 0), 0);
        Check.due("none behind it", most.code(120, 0), ClosureHeap.NONE);
        Check.ill(Check.repeated("1 +", 30), 60);
        // 122, 121 and 134 instructions
        Check.ill(Check.repeated("1+", 40) + "1", 81);
        Check.ill("B( 1 )+B(1)+" + Check.repeated("1+", 37) + "1", 85);
        Check.ill(Check.repeated("1+", 44) + "1", 89);
        // many, but a character can't stand
        Check.ill(Check.repeated("1+", 44) + ")", 88);
        // 267, the most that a text can have
        Check.ill("\\x" + Check.repeated("x", 88), 90);
    }

    private static void allStaysIfIll() {
        ClosureHeap x = Check.compiled(30, "a=B(7);(\\x x)1+a");
        Check.dueThrown("ADD of a block", () -> x.run(100), Check.UNSUPPORTED);
        String code = Check.codeOf(x);
        int next = x.next();
        Check.type(x, "1+");
        Check.dueThrown("ill", x::compile, Check.ILLEGAL_ARGUMENT);
        Check.due("place", x.place(), 2);
        Check.due("the code stays", Check.codeOf(x), code);
        Check.due("next stays", x.next(), next);
        Check.due("state stays", x.state(), 3);
        Check.due("why stays", x.why(), 1);
        Check.due("used stays", x.used(), 11);
        Check.due("live stays", x.live(), 5);
        Check.due("depth stays", x.depth(), 1);
        Check.due("kind stays", x.kind(1), 1);
        Check.due("value stays", x.value(1), 7);
        Check.type(x, Check.repeated("1+", 40) + "1");
        Check.dueThrown("too many instructions", x::compile, Check.ILLEGAL_ARGUMENT);
        Check.due("the code stays", Check.codeOf(x), code);
        Check.due("state stays", x.state(), 3);
        Check.dueThrown("the text is empty, which is ill", x::compile, Check.ILLEGAL_ARGUMENT);
        Check.due("place", x.place(), 0);
        ClosureHeap y = Check.compiled(30, "1+2");
        Check.due("two of five", y.run(2), 2);
        Check.type(y, "q");
        Check.dueThrown("ill", y::compile, Check.ILLEGAL_ARGUMENT);
        Check.due("the rest", y.run(9), 3);
        Check.due("value", y.value(0), 3);
    }

    private static void beginsAnew() {
        ClosureHeap x = Check.ended(20, Check.repeated("a=1;", 7) + "1");
        Check.due("it is FULL", x.why(), 2);
        Check.due("collections", x.collections(), 1);
        Check.recompile(x, "B(1)+1");
        Check.due("state", x.state(), 1);
        Check.due("why", x.why(), 0);
        Check.due("next", x.next(), 0);
        Check.due("depth", x.depth(), 0);
        Check.due("used", x.used(), 0);
        Check.due("live", x.live(), 0);
        Check.due("collections", x.collections(), 0);
        Check.due("kind", x.kind(0), 1);
        Check.due("value", x.value(0), 0);
        Check.due("code", Check.codeOf(x), "NUMBER:1 MAKE:1 PUSH NUMBER:1 ADD HALT");
        Check.dueThrown("it stops", () -> x.run(9), Check.UNSUPPORTED);
        Check.due("depth", x.depth(), 1);
        Check.recompile(x, "5");
        Check.due("depth", x.depth(), 0);
        Check.due("run", x.run(9), 2);
        Check.due("done", x.state(), 2);
        Check.recompile(x, "6");
        Check.due("it can go on", x.state(), 1);
        Check.due("value before it runs", x.value(0), 0);
        Check.due("run", x.run(1), 1);
        Check.due("value", x.value(0), 6);
        Check.recompile(x, "a=1;1+A");
        Check.dueThrown("it stops where a is bound", () -> x.run(9), Check.UNSUPPORTED);
        Check.recompile(x, "(\\x x)1");
        Check.due("run", x.run(9), 8);
        Check.due("used", x.used(), 6);
        Check.due("the old environment holds nothing", x.live(), 0);
    }
}
