/** Promise 13: collections. */
public final class P13CollectionsTest {
    public static void main(String[] args) {
        Check.due("no code", new ClosureHeap(50).collections(), 0);
        garbageIsLeftBehind();
        accumulatorIsARoot();
        stackIsARoot();
        fullAfterACollection();
        manyCollections();
        sharedAndFunctions();
        Check.finish();
    }

    private static void garbageIsLeftBehind() {
        // 3 words for a, and 6 for each call; the third APPLY would make it 21
        ClosureHeap x = Check.compiled(20, "a=1;(\\x x)2+(\\x x)3+(\\x x)4");
        x.run(23);
        Check.due("next is the third APPLY", x.code(x.next(), 0), Check.kindOf("APPLY"));
        Check.due("used", x.used(), 18);
        Check.due("live: a and the function", x.live(), 6);
        Check.due("collections", x.collections(), 0);
        x.run(1);
        Check.due("used: what was live, and a new BINDING", x.used(), 9);
        Check.due("collections", x.collections(), 1);
        x.run(500);
        Check.due("value", x.value(0), 9);
        Check.due("collections", x.collections(), 1);
        Check.due("with one word more", Check.ended(21, "a=1;(\\x x)2+(\\x x)3+(\\x x)4").collections(), 0);
    }

    private static void accumulatorIsARoot() {
        // at the last CLOSURE the accumulator alone holds the block that was opened
        ClosureHeap x = Check.ended(21, "?C(1,(\\x x)((\\x x)1)){Cxz:\\y 1;}");
        Check.due("state", x.state(), 2);
        Check.due("collections", x.collections(), 1);
        Check.due("used", x.used(), 12);
        Check.due("live", x.live(), 9);
    }

    private static void stackIsARoot() {
        ClosureHeap x = Check.ended(20, "D(B(1),B((\\x x)((\\x x)2)),B((\\x x)3))");
        Check.due("state", x.state(), 2);
        Check.due("collections", x.collections(), 1);
        Check.due("first", x.value(1 + 4), 1);
        Check.due("second", x.value(2 + 4), 2);
        Check.due("third", x.value(3 + 4), 3);
        Check.due("live", x.live(), 10);
    }

    private static void fullAfterACollection() {
        ClosureHeap x = Check.ended(20, "(\\x x)1+(a=1;a=1;a=1;a=1;a=1;a=1;a=1;1)");
        Check.due("why", x.why(), 2);
        Check.due("collections: at the fifth BIND, and at the seventh", x.collections(), 2);
        Check.due("used", x.used(), 18);
        Check.due("live", x.live(), 18);
        Check.due("depth", x.depth(), 1);
        ClosureHeap y = Check.ended(20, "a=1;a=1;a=1;a=1;(a=D(1,2,3);1)+(a=D(1,2,3);1)");
        Check.due("why", y.why(), 0);
        Check.due("collections", y.collections(), 1);
        Check.recompile(y, "1");
        Check.due("since the code was made", y.collections(), 0);
    }

    private static void manyCollections() {
        String text = "@fx=x*2;f(f(f 1))+f(f(f 2))+f(f(f 3))+f(f(f 4))+f(f(f 5))";
        int turns = 0;
        int used = 0;
        int all = Check.lengthOfRun(60, text);
        for (int i = 0; i <= all; i++) {
            ClosureHeap x = Check.after(i, 60, text);
            turns += x.used() < used ? 1 : 0;
            used = x.used();
            Check.due("collections after " + i, x.collections(), turns);
        }
        Check.due("value", Check.ended(60, text).value(0), 8 * 15);
        // 6 words at first, then 6 for each of 15 calls: 9 calls fill the half, and only the first 6 words are kept
        Check.due("collections", turns, 1);
        Check.due("in a small half", Check.ended(20, "@fx=x*2;f(f(f 1))+f(f(f 2))").collections(), 2);
    }

    private static void sharedAndFunctions() {
        ClosureHeap x = Check.ended(30, "a=C(7,E);f=\\x C(a,a);b=(\\x x)1+(\\x x)1+(\\x x)1;f b");
        Check.due("state", x.state(), 2);
        Check.due("it was collected", x.collections() > 0, true);
        Check.due("tag", x.value(0), 2);
        Check.due("first of first", x.value(1 + 4), 7);
        Check.due("second of second", x.value(2 + 8), 4);
        Check.due("the shared block counts once", x.live(), 6);
    }
}
