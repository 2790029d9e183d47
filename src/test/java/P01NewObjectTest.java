/** Promise 1: a new object, its size and its first answers. */
public final class P01NewObjectTest {
    /** Binds so much that all is live: the 14th call's MAKE would take the words to 201. */
    private static final String TO_201 = "@f x=f(H(x,x,\\y1));f 0";
    /** Likewise, but the 15th APPLY takes them to 200. */
    private static final String TO_200 = "a=1;b=1;@f x=f(H(x,x,\\y1));f 0";

    public static void main(String[] args) {
        firstAnswers();
        for (int words : new int[] {20, 19, 1, 0, -1, Integer.MIN_VALUE}) {
            smallest(words);
        }
        for (int words : new int[] {200, 201, 1000, Integer.MAX_VALUE}) {
            largest(words);
        }
        between();
        Check.finish();
    }

    private static void firstAnswers() {
        ClosureHeap x = new ClosureHeap(100);
        Check.due("state", x.state(), 0);
        Check.due("why", x.why(), 0);
        Check.due("place", x.place(), ClosureHeap.NONE);
        Check.due("next", x.next(), 0);
        Check.due("depth", x.depth(), 0);
        Check.due("used", x.used(), 0);
        Check.due("live", x.live(), 0);
        Check.due("collections", x.collections(), 0);
        Check.due("code(0, 0)", x.code(0, 0), ClosureHeap.NONE);
        Check.due("kind(0)", x.kind(0), 1);
        Check.due("value(0)", x.value(0), 0);
        Check.due("kind(1)", x.kind(1), 0);
        Check.dueThrown("run(0)", () -> x.run(0), Check.ILLEGAL_STATE);
        Check.dueThrown("compile of no text", x::compile, Check.ILLEGAL_ARGUMENT);
        Check.due("place of no text", x.place(), 0);
    }

    private static void smallest(int words) {
        ClosureHeap fits = Check.compiled(words, Check.repeated("a=B(1);", 4) + "1");
        Check.due("20 words are made in 4 bindings, words " + words, fits.run(12), 12);
        Check.due("used", fits.used(), 20);
        Check.due("collections", fits.collections(), 0);
        ClosureHeap full = Check.ended(words, Check.repeated("a=1;", 7) + "1");
        Check.due("21 words have no room, words " + words, full.why(), 2);
        Check.due("used", full.used(), 18);
    }

    private static void largest(int words) {
        ClosureHeap over = Check.ended(words, TO_201);
        Check.due("201 words have no room, words " + words, over.why(), 2);
        Check.due("used", over.used(), 197);
        ClosureHeap fits = Check.ended(words, TO_200);
        Check.due("200 words have room, words " + words, fits.why(), 2);
        Check.due("used", fits.used(), 200);
    }

    private static void between() {
        Check.due("21 words have room for 7 bindings", Check.ended(21, Check.repeated("a=1;", 7) + "1").state(), 2);
        ClosureHeap x = Check.ended(199, TO_200);
        Check.due("199 words have no room for 200", x.why(), 2);
        Check.due("used", x.used(), 194);
    }
}
