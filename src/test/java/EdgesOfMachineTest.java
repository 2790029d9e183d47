/** The sentences of 'Terms' about words and the machine that name a boundary case, a method for each. */
public final class EdgesOfMachineTest {
    private static final int INT = 1;
    private static final int TAGGED = 2;
    private static final int FUNCTION = 3;
    private static final int WRONG = 1;
    private static final int FULL = 2;
    private static final int DEEP = 3;
    private static final int LEAST = -(1 << 30);
    private static final int GREATEST = (1 << 30) - 1;
    /** m is the least INT, as its product goes beyond the greatest one. */
    private static final String M = "m=1024*1024*1024;";
    private static final String COUNT_DOWN = "@fx=?x<1{E:0;A:f(x-1);};";

    public static void main(String[] args) {
        atFirst();
        rangeOfInts();
        sumsWrapAround();
        differencesWrapAround();
        productsWrapAround();
        lessAndSame();
        fortyWords();
        accessFurtherOn();
        unbindFurtherOn();
        makeTakesItsWords();
        switchTakesTagsAndBlocks();
        openBindsTheFirstFirst();
        applyOfBothKinds();
        halt();
        operandsMustBeInts();
        applyMustHaveAFunction();
        switchMustHaveAConstructor();
        noCaseHasTheTag();
        pushIsDeep();
        applyIsDeep();
        wrongBeforeDeep();
        wrongBeforeFull();
        deepBeforeFull();
        stopsChangingNothing();
        Check.finish();
    }

    private static void atFirst() {
        Check.sentence("accumulator (INT 0 at first), environment (nothing bound), a STACK, the place of the next instruction (0)");
        ClosureHeap x = new ClosureHeap(50);
        String first = Snapshot.words(x) + Snapshot.heap(x);
        Check.due("kind", x.kind(0), INT);
        Check.due("value", x.value(0), 0);
        Check.due("next", x.next(), 0);
        Check.due("depth", x.depth(), 0);
        for (String before : new String[] {"7", "B(7)", "a=B(7);1+A", "1+(\\x x A)2", "\\x x", "?B(7){Bx:x 1;}"}) {
            Check.recompile(x, before);
            Check.due("first, " + before, Snapshot.words(x) + Snapshot.heap(x), first);
            Check.thrown(() -> x.run(500));
            Check.due("it ended, " + before, x.state() >= 2, true);
            Check.recompile(x, "1");
            Check.due("after " + before, Snapshot.words(x) + Snapshot.heap(x), first);
            Check.due("run", x.run(500), 2);
            Check.due("nothing was bound, after " + before, x.live(), 0);
        }
    }

    private static void rangeOfInts() {
        Check.sentence("an INT n, -2 to the 30 .. 2 to the 30 less 1");
        Check.gives(M + "m", INT, LEAST);
        Check.gives(M + "m-1", INT, GREATEST);
        Check.gives(M + "m+1", INT, LEAST + 1);
        Check.gives(M + "m-2", INT, GREATEST - 1);
        Check.gives("9999*9999*5", INT, 9999 * 9999 * 5);
        Check.gives("0-9999*9999*5", INT, -9999 * 9999 * 5);
        Check.gives("1024*1024*1023+1023*1024+1023", INT, GREATEST);
        Check.gives("0-1024*1024*1023-1023*1024-1024", INT, LEAST);
        Check.gives("0-1", INT, -1);
        Check.gives("0-0", INT, 0);
        ClosureHeap x = Check.ended(100, M + "C(m,m-1)");
        Check.due("the least one in a field", x.value(1), LEAST);
        Check.due("the greatest one in a field", x.value(2), GREATEST);
    }

    private static void sumsWrapAround() {
        Check.sentence("the INT that comes of it (modulo 2 to the 31): ADD");
        Check.gives(M + "m-1+1", INT, LEAST);
        Check.gives(M + "m-1+2", INT, LEAST + 1);
        Check.gives(M + "m+m", INT, 0);
        Check.gives(M + "n=m-1;n+n", INT, -2);
        Check.gives(M + "n=0-1;m+n", INT, GREATEST);
        Check.gives(M + "n=0-1;n+m", INT, GREATEST);
        Check.gives(M + "m-1+9999", INT, LEAST + 9998);
        Check.gives(M + "n=m-1;m+n", INT, -1);
    }

    private static void differencesWrapAround() {
        Check.sentence("the INT that comes of it (modulo 2 to the 31): SUBTRACT");
        Check.gives(M + "m-1", INT, GREATEST);
        Check.gives(M + "m-9999", INT, GREATEST - 9998);
        Check.gives(M + "0-m", INT, LEAST);
        Check.gives(M + "n=m-1;0-n", INT, -GREATEST);
        Check.gives(M + "n=m-1;0-n-1", INT, LEAST);
        Check.gives(M + "n=m-1;0-n-2", INT, GREATEST);
        Check.gives(M + "n=m-1;n-m", INT, -1);
        Check.gives(M + "n=m-1;m-n", INT, 1);
        Check.gives(M + "m-m", INT, 0);
    }

    private static void productsWrapAround() {
        Check.sentence("the INT that comes of it (modulo 2 to the 31): MULTIPLY");
        Check.gives("1024*1024*1024", INT, LEAST);
        Check.gives("1024*1024*2048", INT, 0);
        Check.gives("1024*1024*2048+1", INT, 1);
        Check.gives("1024*1024*3072", INT, LEAST);
        Check.gives(M + "m*m", INT, 0);
        Check.gives(M + "m*2", INT, 0);
        Check.gives(M + "m*3", INT, LEAST);
        Check.gives(M + "n=0-1;m*n", INT, LEAST);
        Check.gives(M + "n=m-1;n*n", INT, 1);
        Check.gives(M + "n=m-1;n*2", INT, -2);
        Check.gives(M + "n=m-1;m*n", INT, LEAST);
        long exact = 1;
        StringBuilder text = new StringBuilder("1");
        for (int i = 0; i < 15; i++) {
            exact = Math.floorMod(exact * 9973, 1L << 31);
            text.append("*9973");
            Check.gives(text.toString(), INT, (int) (exact > GREATEST ? exact - (1L << 31) : exact));
        }
    }

    private static void lessAndSame() {
        Check.sentence("for LESS and SAME the TAG 4 if it is so, else 0");
        Check.gives("0<0", TAGGED, 0);
        Check.gives("0<1", TAGGED, 4);
        Check.gives("1<0", TAGGED, 0);
        Check.gives("0-1<0", TAGGED, 4);
        Check.gives("0<0-1", TAGGED, 0);
        Check.gives("0-2<0-1", TAGGED, 4);
        Check.gives("0~0", TAGGED, 4);
        Check.gives("0~1", TAGGED, 0);
        Check.gives("1~0", TAGGED, 0);
        Check.gives("1~0-1", TAGGED, 0);
        // the greatest and the least one, whose difference has no room in an INT
        Check.gives(M + "m<m-1", TAGGED, 4);
        Check.gives(M + "m-1<m", TAGGED, 0);
        Check.gives(M + "m<m", TAGGED, 0);
        Check.gives(M + "m<1", TAGGED, 4);
        Check.gives(M + "1<m", TAGGED, 0);
        Check.gives(M + "m-1<0", TAGGED, 0);
        Check.gives(M + "m~m", TAGGED, 4);
        Check.gives(M + "m~m-1", TAGGED, 0);
        Check.gives(M + "m~0-m", TAGGED, 4);
        Check.gives(M + "m+m~0", TAGGED, 4);
    }

    private static void fortyWords() {
        Check.sentence("a STACK of at most 40 words");
        // 19 calls with two words each, what is pushed before them, and what is compared in the last one
        Check.due("38 and 1", greatestDepth(COUNT_DOWN + "f(18)"), 39);
        Check.gives(COUNT_DOWN + "f(18)", INT, 0);
        Check.due("38, 1 and 1", greatestDepth(COUNT_DOWN + "1+f(18)"), 40);
        Check.gives(COUNT_DOWN + "1+f(18)", INT, 1);
        Check.stops(200, COUNT_DOWN + "1+(1*f(18))", DEEP, 3, 40);
        Check.stops(200, COUNT_DOWN + "f(19)", DEEP, 3, 40);
    }

    private static int greatestDepth(String text) {
        int greatest = 0;
        for (int i = Check.lengthOfRun(200, text); i > 0; i--) {
            greatest = Math.max(greatest, Check.after(i, 200, text).depth());
        }
        return greatest;
    }

    private static void accessFurtherOn() {
        Check.sentence("ACCESS: the value of the environment's BINDING, a further on");
        String heads = "a=1;b=2;c=3;d=4;e=5;f=6;g=7;h=8;i=9;j=10;k=11;l=12;m=13;n=14;o=15;p=16;q=17;r=18;s=19;";
        for (int i = 0; i < 19; i++) {
            Check.gives(heads + (char) ('a' + i), INT, 1 + i);
        }
    }

    private static void unbindFurtherOn() {
        Check.sentence("UNBIND: the environment is that a BINDINGs further on");
        for (int heads = 1; heads <= 20; heads++) {
            ClosureHeap x = Check.compiled(100, Check.repeated("a=1;", heads) + "2");
            Check.due("all are bound", x.run(2 * heads + 1), 2 * heads + 1);
            for (int bound = heads; bound > 0; bound--) {
                Check.due("live with " + bound + " bound", x.live(), 3 * bound);
                Check.due("UNBIND", x.run(1), 1);
            }
            Check.due("nothing is bound", x.live(), 0);
        }
        for (String made : new String[] {"B(1)", "C(1,2)", "D(1,2,3)"}) {
            int fields = made.length() / 2 - 1;
            ClosureHeap x = Check.compiled(100, "a=1;?" + made + "{" + made.charAt(0) + "xyz".substring(0, fields) + ":7;}");
            Snapshot.runTo(x, "UNBIND");
            Check.due("live before", x.live(), 3 + 3 * fields);
            Check.due("UNBIND", x.run(1), 1);
            Check.due("live behind", x.live(), 3);
        }
        Check.gives("a=5;(?D(1,2,3){Dxyz:z;})+a", INT, 8);
    }

    private static void makeTakesItsWords() {
        Check.sentence("MAKE: a new block of the words taken from the stack, the last one the accumulator");
        for (String text : new String[] {"4+B(1)", "4+C(1,2)", "4+D(1,2,3)"}) {
            ClosureHeap x = Check.compiled(100, text);
            Snapshot.runTo(x, "MAKE");
            int fields = x.depth();
            Check.due("MAKE", x.run(1), 1);
            Check.due("the word below stays on the stack, " + text, x.depth(), 1);
            for (int i = 1; i <= 3; i++) {
                Check.due("field " + i + " of " + text, x.value(i), i <= fields ? i : 0);
                Check.due("kind of field " + i + " of " + text, x.kind(i), i <= fields ? INT : 0);
            }
        }
    }

    private static void switchTakesTagsAndBlocks() {
        Check.sentence("SWITCH: the accumulator is a TAG or a constructor's block: on at b of the CASE with its tag");
        String cases = "{A:0;Bb:1;Cbc:2;Dbcd:3;E:4;Ff:5;Ghi:6;Hijk:7;}";
        String[] blocks = {"A", "B(9)", "C(9,9)", "D(9,9,9)", "E", "F(9)", "G(9,9)", "H(9,9,9)"};
        for (int tag = 0; tag < blocks.length; tag++) {
            Check.gives("?" + blocks[tag] + cases, INT, tag);
        }
        Check.gives("?1<2" + cases, INT, 4);
        Check.gives("?1~2" + cases, INT, 0);
        Check.gives("?E{E:8;A:9;}", INT, 8);
        Check.gives("?E{A:9;E:8;}", INT, 8);
    }

    private static void openBindsTheFirstFirst() {
        Check.sentence("OPEN: the accumulator's words are bound, the first one first");
        Check.gives("?B(1){Bx:x;}", INT, 1);
        Check.gives("?C(1,2){Cxy:x*10+y;}", INT, 12);
        Check.gives("?D(1,2,3){Dxyz:x*100+y*10+z;}", INT, 123);
        Check.gives("a=4;?H(1,2,3){Hxyz:a*1000+x*100+y*10+z;}", INT, 4123);
    }

    private static void applyOfBothKinds() {
        Check.sentence("APPLY: for SELF with a new BINDING of the accumulator, then with a new BINDING of x");
        Check.gives("(\\x x)7", INT, 7);
        Check.gives("a=5;(\\x a*10+x)7", INT, 57);
        Check.gives("@fx=x;f 7", INT, 7);
        Check.gives("a=5;@fx=a*10+x;f 7", INT, 57);
        Check.gives("@fx=f;f 7", FUNCTION, 2);
        ClosureHeap x = Check.compiled(100, "(\\x x)7");
        Snapshot.runTo(x, "APPLY");
        Check.due("words before", x.used(), 3);
        Check.due("APPLY of a CLOSURE", x.run(1), 1);
        Check.due("words", x.used(), 6);
        Check.due("depth", x.depth(), 2);
        Check.due("next", x.next(), 4);
        ClosureHeap y = Check.compiled(100, "@fx=x;f 7");
        Snapshot.runTo(y, "APPLY");
        Check.due("words before", y.used(), 6);
        Check.due("APPLY of a SELF", y.run(1), 1);
        Check.due("words", y.used(), 12);
        Check.due("depth", y.depth(), 2);
        Check.due("next", y.next(), 2);
    }

    private static void halt() {
        Check.sentence("HALT: the machine is DONE");
        ClosureHeap x = Check.compiled(100, "B(1)");
        Check.due("all but HALT", x.run(2), 2);
        Check.due("state", x.state(), 1);
        String before = Snapshot.words(x) + Snapshot.heap(x);
        Check.due("HALT", x.run(1), 1);
        Check.due("state", x.state(), 2);
        Check.due("nothing else changes", Snapshot.words(x) + Snapshot.heap(x), before);
    }

    private static void operandsMustBeInts() {
        Check.sentence("It STOPS if a word isn't as it must be: ADD .. SAME, both INTs");
        String[] others = {"A", "E", "B(1)", "(\\x x)", "(@fx=x;f)", "(1<2)"};
        for (String sign : new String[] {"+", "-", "*", "<", "~"}) {
            for (String other : others) {
                wrongAt("1" + sign + other, sign);
                wrongAt(other + sign + "1", sign);
                wrongAt(other + sign + other, sign);
            }
        }
    }

    private static void wrongAt(String text, String sign) {
        String[] kinds = {"ADD", "SUBTRACT", "MULTIPLY", "LESS", "SAME"};
        ClosureHeap x = Check.ended(200, text);
        Check.due("why of " + text, x.why(), WRONG);
        Check.due("next of " + text, x.code(x.next(), 0), Check.kindOf(kinds["+-*<~".indexOf(sign)]));
        Check.due("depth of " + text, x.depth(), 1);
    }

    private static void applyMustHaveAFunction() {
        Check.sentence("It STOPS if a word isn't as it must be: APPLY, the accumulator is a CLOSURE or SELF");
        for (String text : new String[] {"0(1)", "1(1)", "A(1)", "E(1)", "B(1)1", "C(1,2)1", "(1<2)1", "(0-1)1", "(\\x x)1(1)"}) {
            ClosureHeap x = Check.ended(200, text);
            Check.due("why of " + text, x.why(), WRONG);
            Check.due("next of " + text, x.code(x.next(), 0), Check.kindOf("APPLY"));
            Check.due("the argument stays, " + text, x.depth(), 1);
        }
    }

    private static void switchMustHaveAConstructor() {
        Check.sentence("It STOPS if a word isn't as it must be: SWITCH, the accumulator is a TAG or a constructor's block");
        String cases = "{A:0;Bb:1;Cbc:2;Dbcd:3;E:4;Ff:5;Ghi:6;Hijk:7;}";
        for (String other : new String[] {"0", "1", "4", "(0-1)", "(\\x x)", "(@fx=x;f)"}) {
            ClosureHeap x = Check.ended(200, "?" + other + cases);
            Check.due("why of " + other, x.why(), WRONG);
            Check.due("next of " + other, x.code(x.next(), 0), Check.kindOf("SWITCH"));
        }
    }

    private static void noCaseHasTheTag() {
        Check.sentence("It STOPS if no CASE has the tag");
        String[] cases = {"A:0;", "Bb:1;", "Cbc:2;", "Dbcd:3;", "E:4;", "Ff:5;", "Ghi:6;", "Hijk:7;"};
        String[] blocks = {"A", "B(9)", "C(9,9)", "D(9,9,9)", "E", "F(9)", "G(9,9)", "H(9,9,9)"};
        for (int tag = 0; tag < 8; tag++) {
            StringBuilder others = new StringBuilder();
            for (int k = 0; k < 8; k++) {
                others.append(k == tag ? "" : cases[k]);
            }
            ClosureHeap x = Check.ended(200, "?" + blocks[tag] + "{" + others + "}");
            Check.due("why of " + tag, x.why(), WRONG);
            Check.due("next of " + tag, x.code(x.next(), 0), Check.kindOf("SWITCH"));
            Check.gives("?" + blocks[tag] + "{" + cases[tag] + "}", INT, tag);
        }
    }

    private static void pushIsDeep() {
        Check.sentence("if the stack would have more than 40 words (3 DEEP): PUSH");
        ClosureHeap x = Check.compiled(200, "@fx=f x;f 0");
        while (x.state() == 1 && x.depth() < 40) {
            Check.due("it goes on with " + x.depth(), Check.thrown(() -> x.run(1)), 0);
        }
        Check.due("40 words", x.depth(), 40);
        Check.due("ACCESS", x.run(1), 1);
        Check.dueThrown("PUSH", () -> x.run(1), Check.UNSUPPORTED);
        Check.due("why", x.why(), DEEP);
        Check.due("depth", x.depth(), 40);
        Check.due("next", x.next(), 3);
    }

    private static void applyIsDeep() {
        Check.sentence("if the stack would have more than 40 words (3 DEEP): APPLY");
        // an odd word below, so that APPLY takes one of 40 words and puts two
        ClosureHeap x = Check.ended(200, "@fx=f x;1+f 0");
        Check.due("why", x.why(), DEEP);
        Check.due("next", x.code(x.next(), 0), Check.kindOf("APPLY"));
        Check.due("the argument stays", x.depth(), 40);
        Check.due("words: 19 calls were made", x.used(), 6 + 19 * 6);
        ClosureHeap y = Check.ended(200, "f=\\f f f;1+f f");
        Check.due("why, of a CLOSURE", y.why(), DEEP);
        Check.due("next, of a CLOSURE", y.code(y.next(), 0), Check.kindOf("APPLY"));
        Check.due("depth, of a CLOSURE", y.depth(), 40);
        Check.due("words: 19 calls were made", y.used(), 6 + 19 * 3);
    }

    private static void wrongBeforeDeep() {
        Check.sentence("The first of these counts, in this order: WRONG, DEEP");
        // the call of 1 lies in the 19th call of f, over one word: APPLY with 40 words
        Check.stops(200, "@fn=?n<1{E:1n;A:f(n-1);};1+f(18)", WRONG, 12, 40);
    }

    private static void wrongBeforeFull() {
        Check.sentence("The first of these counts, in this order: WRONG, FULL");
        ClosureHeap x = Check.ended(20, Check.repeated("a=1;", 6) + "1(2)");
        Check.due("why", x.why(), WRONG);
        Check.due("used", x.used(), 18);
        Check.due("not collected", x.collections(), 0);
        ClosureHeap y = Check.ended(20, "(\\x x)1+(\\x x)2+(\\x x)3+(1(2))");
        Check.due("why", y.why(), WRONG);
        Check.due("used", y.used(), 18);
        Check.due("not collected", y.collections(), 0);
    }

    private static void deepBeforeFull() {
        Check.sentence("The first of these counts, in this order: DEEP, FULL");
        ClosureHeap x = Check.ended(120, "@fx=f x;1+f 0");
        Check.due("why", x.why(), DEEP);
        Check.due("used", x.used(), 120);
        Check.due("not collected", x.collections(), 0);
        ClosureHeap y = Check.ended(119, "@fx=f x;1+f 0");
        Check.due("why, a call before", y.why(), FULL);
        Check.due("depth", y.depth(), 38);
        Check.due("used", y.used(), 114);
        Check.due("collected", y.collections(), 1);
    }

    private static void stopsChangingNothing() {
        Check.sentence("It STOPS, changing nothing");
        String[] wrong = {"a=B(1);1+a", "a=C(1,2);a(3)", "?D(1,2,B(3)){A:1;}", "(\\x x)1+(?(\\x x){A:1;})", "B(1)<2", "A~A"};
        for (String text : wrong) {
            stopsChanging(60, text, WRONG, false);
        }
        for (String text : new String[] {"@fx=f x;f 0", "@fx=f x;1+f 0", "f=\\f f f;f f", "f=\\f f f;1+f f"}) {
            stopsChanging(200, text, DEEP, false);
        }
        String six = Check.repeated("a=1;", 6);
        for (String rest : new String[] {"a=D(1,2,3);a", "\\x 1", "@fx=1;1", "C(a,2)", "D(1,a,3)", "?B(1){Bx:1;}", "(\\x x)1"}) {
            stopsChanging(20, six + rest, FULL, true);
        }
        stopsChanging(22, "a=1;a=1;a=1;a=1;@fx=x;f 1", FULL, true);
        // a word that can't be reached any more is collected, but no other word changes
        stopsChanging(20, "b=(\\x x)1;a=1;a=1;?D(1,2,3){Dxyz:x;}", FULL, true);
    }

    private static void stopsChanging(int words, String text, int why, boolean collected) {
        ClosureHeap x = Check.after(Check.lengthOfRun(words, text), words, text);
        Check.due("state of " + text + " before", x.state(), 1);
        String held = Snapshot.words(x);
        String heap = Snapshot.heap(x);
        int live = x.live();
        int collections = x.collections();
        Check.dueThrown("the next instruction of " + text, () -> x.run(1), Check.UNSUPPORTED);
        Check.due("why of " + text, x.why(), why);
        Check.due("words of " + text, Snapshot.words(x), held);
        String due = collected ? "used " + live + " collections " + (collections + 1) : heap;
        Check.due("heap of " + text, Snapshot.heap(x), due);
    }
}
