/** Promise 6: run, and what each instruction does. */
public final class P06RunTest {
    private static final int INT = 1;
    private static final int TAGGED = 2;
    private static final int FUNCTION = 3;

    public static void main(String[] args) {
        wrongArguments();
        counts();
        arithmetic();
        comparisons();
        bindingsAndFunctions();
        blocksAndMatches();
        stopsWrong();
        stopsDeep();
        stopsFull();
        stoppedRunKeepsWhatItDid();
        Check.finish();
    }

    private static void wrongArguments() {
        ClosureHeap x = new ClosureHeap(50);
        for (int n : new int[] {-1, 501, Integer.MIN_VALUE, Integer.MAX_VALUE}) {
            Check.dueThrown("run(" + n + ") without code", () -> x.run(n), Check.ILLEGAL_ARGUMENT);
        }
        for (int n : new int[] {0, 1, 500}) {
            Check.dueThrown("run(" + n + ") without code", () -> x.run(n), Check.ILLEGAL_STATE);
        }
        Check.recompile(x, "1");
        Check.dueThrown("run(501)", () -> x.run(501), Check.ILLEGAL_ARGUMENT);
        Check.dueThrown("run(-1)", () -> x.run(-1), Check.ILLEGAL_ARGUMENT);
        Check.due("nothing was done", x.next(), 0);
        Check.due("run(500)", x.run(500), 2);
        Check.dueThrown("run(0) when DONE", () -> x.run(0), Check.ILLEGAL_STATE);
        Check.dueThrown("run(1) when DONE", () -> x.run(1), Check.ILLEGAL_STATE);
        Check.dueThrown("run(501) when DONE", () -> x.run(501), Check.ILLEGAL_ARGUMENT);
        Check.recompile(x, "1 A");
        Check.dueThrown("it stops", () -> x.run(500), Check.UNSUPPORTED);
        Check.dueThrown("run(0) when stopped", () -> x.run(0), Check.ILLEGAL_STATE);
        Check.dueThrown("run(500) when stopped", () -> x.run(500), Check.ILLEGAL_STATE);
        Check.dueThrown("run(-1) when stopped", () -> x.run(-1), Check.ILLEGAL_ARGUMENT);
    }

    private static void counts() {
        ClosureHeap x = Check.compiled(50, "1+2");
        Check.due("run(0)", x.run(0), 0);
        Check.due("next", x.next(), 0);
        Check.due("run(1)", x.run(1), 1);
        Check.due("next", x.next(), 1);
        Check.due("run(2)", x.run(2), 2);
        Check.due("next", x.next(), 3);
        Check.due("run(0)", x.run(0), 0);
        Check.due("run(1), ADD", x.run(1), 1);
        Check.due("it isn't DONE yet", x.state(), 1);
        Check.due("run(1), HALT", x.run(1), 1);
        Check.due("it is DONE", x.state(), 2);
        ClosureHeap y = Check.compiled(200, "@fx=?x<1{E:0;A:f(x-1);};f(15)+f(15)+f(15)");
        Check.due("run(500)", y.run(500), 500);
        // 14 for each call that goes on, 8 for the last one, 4 that make the first one, and 9 around them
        Check.due("run(500) again", y.run(500), 3 * (15 * 14 + 8 + 4) + 9 - 500);
        Check.due("it is DONE", y.state(), 2);
    }

    private static void arithmetic() {
        Check.gives("0", INT, 0);
        Check.gives("9999", INT, 9999);
        Check.gives("7-9", INT, -2);
        Check.gives("10-3-2", INT, 5);
        Check.gives("10-(3-2)", INT, 9);
        Check.gives("2+3*4", INT, 14);
        Check.gives("(2+3)*4", INT, 20);
        Check.gives("(0-3)*4", INT, -12);
        Check.gives("(0-3)*(0-4)", INT, 12);
        Check.gives("1024*1024*1024-1", INT, 1073741823);
        Check.gives("1024*1024*1024", INT, -1073741824);
        Check.gives("0-1024*1024*1024", INT, -1073741824);
        Check.gives("1024*1024*1024+1024*1024*1024", INT, 0);
        Check.gives("0-1024*1024*1024-1", INT, 1073741823);
        Check.gives("1024*1024*2048", INT, 0);
        Check.gives("9999*9999*9999", INT, (int) ((9999L * 9999 * 9999 % (1L << 31)) << 33 >> 33));
        Check.gives("(0-9999)*9999*9999", INT, (int) ((-9999L * 9999 * 9999) << 33 >> 33));
    }

    private static void comparisons() {
        Check.gives("1<2", TAGGED, 4);
        Check.gives("2<2", TAGGED, 0);
        Check.gives("3<2", TAGGED, 0);
        Check.gives("0-1<0", TAGGED, 4);
        Check.gives("0<0-1", TAGGED, 0);
        Check.gives("1024*1024*1024<1024*1024*1024-1", TAGGED, 4);
        Check.gives("2~2", TAGGED, 4);
        Check.gives("2~3", TAGGED, 0);
        Check.gives("3~2", TAGGED, 0);
        Check.gives("A", TAGGED, 0);
        Check.gives("E", TAGGED, 4);
    }

    private static void bindingsAndFunctions() {
        Check.gives("a=3;b=4;c=5;a*100+b*10+c", INT, 345);
        Check.gives("a=1;a=a+1;a", INT, 2);
        Check.gives("a=1;(a=2;a)*10+a", INT, 21);
        Check.gives("(\\x x-1)5", INT, 4);
        Check.gives("(\\x\\y x-y)(9)4", INT, 5);
        Check.gives("a=7;f=\\x a-x;a=1;f 2", INT, 5);
        Check.gives("@fx=?x~0{E:1;A:x*f(x-1);};f 6", INT, 720);
        Check.gives("@fx=?x<2{E:x;A:f(x-1)+f(x-2);};f 9", INT, 34);
        Check.gives("@fx=\\y x-y;f(9)(4)", INT, 5);
        Check.gives("x=2;@fx=x;f 3*10+x", INT, 32);
        Check.gives("(\\f f(f 3))(\\x x*x)", INT, 81);
        Check.gives("\\x x", FUNCTION, 2);
        Check.gives("@fx=x;f", FUNCTION, 2);
        Check.gives("a=1;\\x a", FUNCTION, 4);
        Check.gives("k=\\x\\y x;k 1", FUNCTION, 4);
    }

    private static void blocksAndMatches() {
        Check.gives("B(1)", TAGGED, 1);
        Check.gives("C(1,2)", TAGGED, 2);
        Check.gives("D(1,2,3)", TAGGED, 3);
        Check.gives("F(1)", TAGGED, 5);
        Check.gives("G(1,2)", TAGGED, 6);
        Check.gives("H(1,2,3)", TAGGED, 7);
        Check.gives("?D(1,2,3){Dabc:a*100+b*10+c;}", INT, 123);
        Check.gives("?H(1,2,3){Dabc:0;Habc:c*100+b*10+a;}", INT, 321);
        Check.gives("?G(8,2){Gxy:x-y;Cxy:0;}", INT, 6);
        Check.gives("?F(8){Bx:1;Fx:x;}", INT, 8);
        Check.gives("?A{E:1;A:2;}", INT, 2);
        Check.gives("?E{E:1;A:2;}", INT, 1);
        Check.gives("?1<2{E:1;A:2;}", INT, 1);
        Check.gives("?2<1{E:1;A:2;}", INT, 2);
        Check.gives("a=9;?C(1,2){Cxy:a-y;}", INT, 7);
        Check.gives("a=9;(?C(1,2){Cxy:x;})+a", INT, 10);
        Check.gives("?B(C(1,B(5))){Bx:?x{Cyz:?z{Bx:x-y;};};}", INT, 4);
        Check.gives("@ln=?n<1{E:A;A:C(n,l(n-1));};@sx=?x{A:0;Cht:h+s t;};s(l 6)", INT, 21);
    }

    private static void stopsWrong() {
        for (String operation : new String[] {"+", "-", "*", "<", "~"}) {
            Check.stops(50, "1" + operation + "A", 1, 3, 1);
            Check.stops(50, "A" + operation + "1", 1, 3, 1);
            Check.stops(50, "E" + operation + "E", 1, 3, 1);
            Check.stops(50, "1" + operation + "B(1)", 1, 4, 1);
            Check.stops(50, "B(1)" + operation + "1", 1, 4, 1);
            Check.stops(50, "1" + operation + "(\\x x)", 1, 6, 1);
        }
        Check.stops(50, "1(2)", 1, 3, 1);
        Check.stops(50, "A 2", 1, 3, 1);
        Check.stops(50, "B(1)2", 1, 4, 1);
        Check.stops(50, "(\\x x)(1)2", 1, 9, 1);
        Check.stops(50, "?1{A:1;E:2;}", 1, 1, 0);
        Check.stops(50, "?0{A:1;}", 1, 1, 0);
        Check.stops(50, "?(\\x x){A:1;}", 1, 4, 0);
        Check.stops(50, "?(@fx=x;f){A:1;}", 1, 7, 0);
        Check.stops(50, "?A{E:1;}", 1, 1, 0);
        Check.stops(50, "?B(1){Fx:1;A:1;}", 1, 2, 0);
        Check.stops(50, "?E{A:1;Bx:2;Cxy:3;Dxyz:4;Fx:6;Gxy:7;Hxyz:8;}", 1, 1, 0);
        // APPLY with 40 words on the stack: WRONG comes before DEEP
        Check.stops(200, "@fn=?n<1{E:1n;A:f(n-1);};1+f(18)", 1, 12, 40);
    }

    private static void stopsDeep() {
        // PUSH with 40 words on the stack
        Check.stops(200, "@fx=f x;f 0", 3, 3, 40);
        // APPLY with 40 words on the stack
        Check.stops(200, "@fx=f x;1+f 0", 3, 5, 40);
        // no room for APPLY's blocks either, but DEEP comes before FULL and nothing is collected
        ClosureHeap x = Check.ended(120, "@fx=f x;1+f 0");
        Check.due("why", x.why(), 3);
        Check.due("used", x.used(), 120);
        Check.due("collections", x.collections(), 0);
        Check.gives("@fx=?x<1{E:0;A:f(x-1);};f(18)", INT, 0);
    }

    private static void stopsFull() {
        // BIND
        Check.stops(20, "a=1;a=1;a=1;a=1;a=1;a=1;a=1;1", 2, 13, 0);
        // CLOSURE
        Check.stops(20, "a=1;a=1;a=1;a=1;a=1;a=1;\\x 1", 2, 12, 0);
        // SELF
        Check.stops(20, "a=1;a=1;a=1;a=1;a=1;a=1;@fx=1;1", 2, 12, 0);
        // MAKE of four words, of which three would have room
        Check.stops(21, "a=1;a=1;a=1;a=1;a=1;a=1;D(1,2,3)", 2, 17, 2);
        // OPEN, all of whose blocks must have room: 4 + 9 words behind 9
        Check.stops(21, "a=1;a=1;a=1;?D(1,2,3){Dxyz:x;}", 2, 14, 0);
        Check.due("22 words are enough", Check.ended(22, "a=1;a=1;a=1;?D(1,2,3){Dxyz:x;}").state(), 2);
        // APPLY of a CLOSURE: 3 words behind 18
        Check.stops(20, "a=1;a=1;a=1;a=1;a=1;(\\x x)1", 2, 16, 1);
        Check.due("21 words are enough", Check.ended(21, "a=1;a=1;a=1;a=1;a=1;(\\x x)1").state(), 2);
        // APPLY of a SELF: 6 words behind 18
        Check.stops(23, "a=1;a=1;a=1;a=1;@fx=x;f 1", 2, 16, 1);
        Check.due("24 words are enough", Check.ended(24, "a=1;a=1;a=1;a=1;@fx=x;f 1").state(), 2);
    }

    private static void stoppedRunKeepsWhatItDid() {
        ClosureHeap x = Check.compiled(50, "a=5;B(a)+1");
        Check.due("all but the ADD", x.run(6), 6);
        Check.due("it can go on", x.state(), 1);
        Check.dueThrown("the ADD", () -> x.run(1), Check.UNSUPPORTED);
        Check.due("next", x.next(), 6);
        Check.due("value", x.value(0), 1);
        ClosureHeap y = Check.compiled(50, "a=5;B(a)+1");
        Check.dueThrown("all in one", () -> y.run(500), Check.UNSUPPORTED);
        Check.due("next", y.next(), 6);
        Check.due("depth", y.depth(), 1);
        Check.due("used", y.used(), 5);
        Check.due("value", y.value(0), 1);
    }
}
