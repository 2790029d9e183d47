/** The sentences of 'Terms' about blocks and the heap that name a boundary case, a method for each. */
public final class EdgesOfHeapTest {
    private static final String SIX = "a=1;a=1;a=1;a=1;a=1;a=1;";
    /** Leaves 6 words that can't be reached any more, and 3 that can. */
    private static final String GARBAGE = "b=(\\x x)1;";

    public static void main(String[] args) {
        wordsOfBlocks();
        firstAndLastPlaces();
        nothingBound();
        exactRoom();
        oneWordShort();
        allBlocksOfAnInstruction();
        notCollectedWithRoom();
        accumulatorIsReached();
        environmentIsReached();
        stackIsReached();
        environmentOnTheStackIsReached();
        fieldsAreReached();
        functionsAreReached();
        bindingsAreReached();
        sharedBlocksAreOne();
        whatCannotBeReached();
        newBlocksBehind();
        halvesInTurn();
        roomAfterCollection();
        fullAfterCollection();
        Check.finish();
    }

    private static void wordsOfBlocks() {
        Check.sentence("A block is a header and so many words");
        words("A", 0);
        words("B(1)", 2);
        words("C(1,2)", 3);
        words("D(1,2,3)", 4);
        words("E", 0);
        words("F(1)", 2);
        words("G(1,2)", 3);
        words("H(1,2,3)", 4);
        words("\\x 1", 3);
        words("a=1;1", 3);
        words("@fx=1;1", 6);
        words("?B(1){Bx:1;}", 2 + 3);
        words("?C(1,2){Cxy:1;}", 3 + 6);
        words("?D(1,2,3){Dxyz:1;}", 4 + 9);
        words("(\\x x)1", 3 + 3);
        words("@fx=x;f 1", 6 + 6);
        words("1<2", 0);
    }

    private static void words(String text, int want) {
        ClosureHeap x = Check.ended(100, text);
        Check.due("state of " + text, x.state(), 2);
        Check.due("words of " + text, x.used(), want);
        Check.due("collections of " + text, x.collections(), 0);
    }

    private static void firstAndLastPlaces() {
        Check.sentence("a POINTER to a block is 4 times the place of its HEADER");
        // the first block's pointer is 0, and isn't taken for something else
        ClosureHeap block = Check.ended(20, "B(7)");
        Check.due("kind of the first block", block.kind(0), 2);
        Check.due("its field", block.value(1), 7);
        Check.due("live", block.live(), 2);
        Check.gives("(\\x x)7", 1, 7);
        Check.gives("a=7;a", 1, 7);
        Check.gives("?B(7){Bx:x;}", 1, 7);
        Check.gives("@fx=x;f 7", 1, 7);
        Check.due("the first block on the stack", Check.ended(20, "C(B(7),8)").value(1 + 4), 7);
        // the last words of a half
        ClosureHeap last = Check.ended(22, SIX + "D(1,2,3)");
        Check.due("used", last.used(), 22);
        Check.due("the last word", last.value(3), 3);
        Check.due("live", last.live(), 4);
        // in a collection blocks get other places, the first one again among them
        ClosureHeap moved = Check.ended(20, "(\\x x)1+(\\x x)1+(\\x x)1+(?B(7){Bx:x;})");
        Check.due("state", moved.state(), 2);
        Check.due("collections", moved.collections(), 1);
        Check.due("value", moved.value(0), 10);
        Check.due("used: the block and its BINDING", moved.used(), 2 + 3);
    }

    private static void nothingBound() {
        Check.sentence("The environment is a pointer to a BINDING, or the INT 0: nothing is bound");
        ClosureHeap x = Check.ended(20, "\\x x");
        Check.due("a function where nothing is bound", x.live(), 3);
        ClosureHeap y = Check.ended(20, "a=B(1);1");
        Check.due("used", y.used(), 5);
        Check.due("when all is unbound", y.live(), 0);
        ClosureHeap z = Check.ended(20, "f=\\x x;a=(\\x x)1;b=(\\x x)1;f 3");
        Check.due("state", z.state(), 2);
        Check.due("collections: at b's APPLY, and at f's", z.collections(), 2);
        Check.due("value", z.value(0), 3);
        Check.due("nothing is bound in the end", z.live(), 0);
    }

    /** Texts whose last block needs so many words in all, none of which can be given up, and the instruction that makes it. */
    private static final Object[][] NEEDED = {
        {SIX + "a=1;1", 21, "BIND"}, {SIX + "\\x 1", 21, "CLOSURE"}, {SIX + "a=1;@fx=1;1", 27, "BIND"},
        {SIX + "B(B(1))", 22, "MAKE"}, {SIX + "C(1,2)", 21, "MAKE"}, {SIX + "D(1,2,3)", 22, "MAKE"},
        {SIX + "F(F(1))", 22, "MAKE"}, {SIX + "G(1,2)", 21, "MAKE"}, {SIX + "H(1,2,3)", 22, "MAKE"},
        {SIX + "?B(1){Bx:x;}", 23, "OPEN"}, {SIX + "?C(1,2){Cxy:x;}", 27, "OPEN"}, {SIX + "?D(1,2,3){Dxyz:x;}", 31, "OPEN"},
        {SIX + "(\\x x)1", 24, "APPLY"}, {SIX + "@fx=x;f 1", 30, "APPLY"}
    };

    private static void exactRoom() {
        Check.sentence("New blocks lie one behind the other in one of them");
        for (Object[] needed : NEEDED) {
            ClosureHeap x = Check.ended((Integer) needed[1], (String) needed[0]);
            Check.due("state of " + needed[0], x.state(), 2);
            Check.due("used of " + needed[0], x.used(), (Integer) needed[1]);
            Check.due("collections of " + needed[0], x.collections(), 0);
        }
    }

    private static void oneWordShort() {
        Check.sentence("if there is no room in the heap for all blocks that an instruction makes (2 FULL)");
        for (Object[] needed : NEEDED) {
            int words = (Integer) needed[1] - 1;
            ClosureHeap x = Check.ended(words, (String) needed[0]);
            Check.due("why of " + needed[0], x.why(), 2);
            Check.due("next of " + needed[0], x.code(x.next(), 0), Check.kindOf((String) needed[2]));
            Check.due("used of " + needed[0], x.used() < words, true);
            Check.due("live of " + needed[0], x.live(), x.used());
            Check.due("collections of " + needed[0], x.collections(), 1);
        }
        ClosureHeap self = Check.ended(20, SIX + "@fx=1;1");
        Check.due("why of SELF", self.why(), 2);
        Check.due("next of SELF", self.code(self.next(), 0), Check.kindOf("SELF"));
    }

    private static void allBlocksOfAnInstruction() {
        Check.sentence("If the blocks of an instruction have no room there, it is COLLECTED");
        // OPEN makes three blocks behind 13 words; 21 have room for two of them
        collectedOnce("?D(1,2,3){Dxyz:x;}", 22, 7 + 9);
        // two blocks behind 12 words
        collectedOnce("a=1;?C(1,2){Cxy:x;}", 21, 9 + 6);
        // APPLY of a SELF makes two blocks behind 15 words; 20 have room for one of them
        collectedOnce("@fx=x;f b", 21, 9 + 6);
        collectedOnce("a=1;a=1;a=1;\\x 1", 21, 12 + 3);
        collectedOnce("a=1;a=1;a=1;a=1;1", 21, 12 + 3);
        collectedOnce("a=1;a=1;a=1;C(1,2)", 21, 12 + 3);
        collectedOnce("a=1;a=1;(\\x x)1", 21, 12 + 3);
    }

    /** With so many words there is room for all; with one word less there is when what can't be reached is given up. */
    private static void collectedOnce(String text, int words, int used) {
        ClosureHeap enough = Check.ended(words, GARBAGE + text);
        Check.due("state of " + text, enough.state(), 2);
        Check.due("used of " + text, enough.used(), words);
        Check.due("collections of " + text, enough.collections(), 0);
        ClosureHeap short1 = Check.ended(words - 1, GARBAGE + text);
        Check.due("state of " + text + ", one word less", short1.state(), 2);
        Check.due("used of " + text + ", one word less", short1.used(), used);
        Check.due("collections of " + text + ", one word less", short1.collections(), 1);
        Check.due("kind of " + text, short1.kind(0), enough.kind(0));
        Check.due("value of " + text, short1.value(0), enough.value(0));
    }

    private static void notCollectedWithRoom() {
        Check.sentence("If the blocks of an instruction have no room there");
        ClosureHeap x = Check.ended(20, GARBAGE + "a=1;a=1;a=1;B(1)");
        Check.due("state", x.state(), 2);
        Check.due("used", x.used(), 20);
        Check.due("collections", x.collections(), 0);
        // what makes no block collects nothing, though no word is free
        ClosureHeap y = Check.ended(20, GARBAGE + "a=1;a=1;a=1;?B(1){Bx:1;}");
        Check.due("OPEN has no room", y.collections(), 1);
        ClosureHeap z = Check.ended(20, GARBAGE + "a=1;a=1;a=B(1)<B(1);a");
        Check.due("LESS of blocks is WRONG", z.why(), 1);
        Check.due("used", z.used(), 19);
        Check.due("collections", z.collections(), 0);
    }

    private static void accumulatorIsReached() {
        Check.sentence("what can be reached from the accumulator");
        // at the last BIND the block is in the accumulator alone
        ClosureHeap x = Check.ended(20, GARBAGE + "a=1;a=1;a=D(1,E,3);a");
        Check.due("state", x.state(), 2);
        Check.due("collections", x.collections(), 1);
        Check.due("used", x.used(), 9 + 4 + 3);
        Check.due("tag", x.value(0), 3);
        Check.due("first", x.value(1), 1);
        Check.due("second", x.kind(2) * 10 + x.value(2), 24);
        Check.due("third", x.value(3), 3);
        ClosureHeap y = Check.ended(20, GARBAGE + "a=1;a=1;(\\x x+1)6");
        Check.due("state, of a function", y.state(), 2);
        Check.due("collections, of a function", y.collections(), 1);
        Check.due("value, of a function", y.value(0), 7);
    }

    private static void environmentIsReached() {
        Check.sentence("what can be reached from .. the environment");
        ClosureHeap x = Check.ended(20, "c=B(5);" + GARBAGE + "a=2;d=3;c");
        Check.due("state", x.state(), 2);
        Check.due("used", x.used(), 20);
        Check.due("collections", x.collections(), 0);
        ClosureHeap y = Check.ended(20, "c=B(5);" + GARBAGE + "a=2;d=3;e=4;C(c,a*100+d*10+e)");
        Check.due("state", y.state(), 2);
        Check.due("collections", y.collections(), 1);
        Check.due("tag", y.value(0), 2);
        Check.due("c's field", y.value(1 + 4), 5);
        Check.due("the others", y.value(2), 234);
        Check.due("used", y.used(), 5 + 12 + 3);
    }

    private static void stackIsReached() {
        Check.sentence("what can be reached from .. the stack");
        // 2 words, then 18 that can't be reached any more, and 3 for C
        ClosureHeap x = Check.ended(20, "C(B(5),(\\x x)((\\x x)((\\x x)6)))");
        Check.due("state", x.state(), 2);
        Check.due("collections", x.collections(), 1);
        Check.due("used", x.used(), 5);
        Check.due("first's field", x.value(1 + 4), 5);
        Check.due("second", x.value(2), 6);
        // every word of the stack counts: the lowest, one between, and the highest
        ClosureHeap y = Check.ended(26, "D(B(1),C(2,E),(\\x x)((\\x x)((\\x x)6)))");
        Check.due("state", y.state(), 2);
        Check.due("collections", y.collections(), 1);
        Check.due("used", y.used(), 2 + 3 + 4);
        Check.due("first's field", y.value(1 + 4), 1);
        Check.due("second's fields", y.value(2 + 4) * 10 + y.value(2 + 8), 24);
        Check.due("third", y.value(3), 6);
    }

    private static void environmentOnTheStackIsReached() {
        Check.sentence("what can be reached from .. the stack, an environment there");
        // a is bound behind f, so that while f is called only the stack leads to it
        ClosureHeap x = Check.ended(20, "f=\\x(\\y y)((\\y y)((\\y y)x));a=B(7);c=f 1;a");
        Check.due("state", x.state(), 2);
        Check.due("collections", x.collections(), 3);
        Check.due("tag", x.value(0), 1);
        Check.due("field", x.value(1), 7);
        Check.due("live: the block alone", x.live(), 2);
    }

    private static void fieldsAreReached() {
        Check.sentence("and from blocks that are: a constructor's");
        ClosureHeap x = Check.ended(25, GARBAGE + "a=D(B(1),C(2,B(3)),4);c=1;a");
        Check.due("state", x.state(), 2);
        Check.due("collections", x.collections(), 1);
        Check.due("used", x.used(), 3 + 4 + 2 + 3 + 2 + 3 + 3);
        Check.due("1, 1", x.value(1 + 4), 1);
        Check.due("2, 1", x.value(2 + 4), 2);
        Check.due("2, 2, 1", x.value(2 + 8 + 16), 3);
        Check.due("3", x.value(3), 4);
        Check.due("live", x.live(), 11);
    }

    private static void functionsAreReached() {
        Check.sentence("and from blocks that are: a CLOSURE's or SELF's environment");
        ClosureHeap x = Check.ended(21, "f=(a=B(5);\\x a);" + GARBAGE + "c=1;f 0");
        Check.due("state", x.state(), 2);
        Check.due("collections", x.collections(), 1);
        Check.due("a's field", x.value(1), 5);
        ClosureHeap y = Check.ended(26, "f=(a=B(5);@gx=a;g);" + GARBAGE + "c=1;f 0");
        Check.due("state, of SELF", y.state(), 2);
        Check.due("collections, of SELF", y.collections() > 0, true);
        Check.due("a's field, of SELF", y.value(1), 5);
    }

    private static void bindingsAreReached() {
        Check.sentence("and from blocks that are: a BINDING's value and environment");
        ClosureHeap x = Check.ended(24, "a=B(1);c=B(2);d=B(3);" + GARBAGE + "D(a,c,d)");
        Check.due("state", x.state(), 2);
        Check.due("collections", x.collections(), 1);
        Check.due("used", x.used(), 15 + 3 + 4);
        for (int i = 1; i <= 3; i++) {
            Check.due("field of field " + i, x.value(i + 4), i);
        }
        Check.due("live, when all is unbound", x.live(), 4 + 6);
    }

    private static void sharedBlocksAreOne() {
        Check.sentence("what can be reached .. is in the other half then");
        ClosureHeap x = Check.ended(24, "a=C(1,2);c=D(a,a,a);" + GARBAGE + "d=1;C(c,c)");
        Check.due("state", x.state(), 2);
        Check.due("collections", x.collections(), 1);
        Check.due("used: each block once", x.used(), 3 + 3 + 4 + 3 + 3 + 3 + 3);
        Check.due("live", x.live(), 3 + 4 + 3);
        for (int first = 1; first <= 2; first++) {
            for (int second = 1; second <= 3; second++) {
                Check.due("1", x.value(first + 4 * second + 16), 1);
                Check.due("2", x.value(first + 4 * second + 32), 2);
            }
        }
        // a function that is bound in itself leads back to itself when it is called
        ClosureHeap y = Check.ended(26, "@fx=?x<1{E:x;A:f(x-1);};f 1+f 1+f 1+f 1");
        Check.due("state", y.state(), 2);
        Check.due("it was collected", y.collections() > 0, true);
        Check.due("value", y.value(0), 0);
    }

    private static void whatCannotBeReached() {
        Check.sentence("from which what can't be reached any more is collected");
        // B lay on the stack, and is reached neither from there any more nor from a
        ClosureHeap x = Check.ended(20, "a=?C(B(5),1){Cxy:y;};b=1;c=1;d=1;1");
        Check.due("state", x.state(), 2);
        Check.due("collections", x.collections(), 1);
        Check.due("used: four names", x.used(), 12);
        // what was the accumulator, and what was bound
        ClosureHeap y = Check.ended(20, "a=(b=D(1,2,3);c=\\x b;2);d=(e=B(1);3);a=4;a");
        Check.due("state", y.state(), 2);
        Check.due("collections", y.collections(), 1);
        Check.due("used: a and B when e is bound, then e, d and a", y.used(), 3 + 2 + 3 + 3 + 3);
    }

    private static void newBlocksBehind() {
        Check.sentence("and new blocks behind it");
        ClosureHeap x = Check.compiled(20, GARBAGE + "a=1;a=1;a=1;a=1;B(a)");
        int used = 0;
        while (x.state() == 1 && x.collections() == 0) {
            used = x.used();
            x.run(1);
        }
        Check.due("used before", used, 18);
        Check.due("used: 4 BINDINGs, and the new one behind them", x.used(), 12 + 3);
        Check.due("live", x.live(), 15);
        Check.due("the rest", x.run(500) > 0, true);
        Check.due("used", x.used(), 17);
        Check.due("collections", x.collections(), 1);
        Check.due("field", x.value(1), 1);
    }

    private static void halvesInTurn() {
        Check.sentence("THE HEAP has two HALVES of so many words");
        // each round makes 12 words, of which none is kept; what was made first is as it was then
        String text = "a=D(4,E,\\x x);@fx=?x<1{E:a;A:f(x-1);};";
        ClosureHeap x = Check.ended(37, text + "b=f 1;b=f 1;b=f 1;f 1");
        Check.due("state", x.state(), 2);
        Check.due("each half was used twice", x.collections(), 3);
        Check.due("first", x.value(1), 4);
        Check.due("second", x.value(2), 4);
        Check.due("kind of the third", x.kind(3), 3);
        Check.due("live", x.live(), 4 + 3);
        for (int words = 20; words <= 200; words++) {
            ClosureHeap y = Check.ended(words, "@fx=C(x,f(x+1));f 0");
            Check.due("it stops, with " + words, y.state(), 3);
            Check.due("used, with " + words, y.used() <= words, true);
        }
    }

    private static void roomAfterCollection() {
        Check.sentence("if they have no room then");
        // OPEN has exactly room behind 9 + 4 words, when 6 were given up
        ClosureHeap x = Check.ended(22, GARBAGE + "a=1;a=1;?D(1,2,3){Dxyz:x*100+y*10+z;}");
        Check.due("state", x.state(), 2);
        Check.due("used", x.used(), 22);
        Check.due("collections", x.collections(), 1);
        Check.due("value", x.value(0), 123);
    }

    private static void fullAfterCollection() {
        Check.sentence("it STOPS (the collection stays made)");
        ClosureHeap x = Check.compiled(21, GARBAGE + "a=1;a=1;?D(1,2,3){Dxyz:x;}");
        Snapshot.runTo(x, "OPEN");
        Check.due("used before", x.used(), 19);
        Check.due("live before", x.live(), 13);
        Check.due("collections before", x.collections(), 0);
        Check.dueThrown("OPEN", () -> x.run(1), Check.UNSUPPORTED);
        Check.due("why", x.why(), 2);
        Check.due("used", x.used(), 13);
        Check.due("live", x.live(), 13);
        Check.due("collections", x.collections(), 1);
        Check.due("the block that it would open", x.value(0) * 1000 + x.value(1) * 100 + x.value(2) * 10 + x.value(3), 3123);
        Check.dueThrown("run again", () -> x.run(1), Check.ILLEGAL_STATE);
        Check.due("it isn't tried again", x.collections(), 1);
        Check.due("used", x.used(), 13);
    }
}
