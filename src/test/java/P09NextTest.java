/** Promise 9: next. */
public final class P09NextTest {
    public static void main(String[] args) {
        Check.due("no code", new ClosureHeap(50).next(), 0);
        follows("1+2", 50, 0, 1, 2, 3, 4, 4);
        follows("(\\x x)3", 50, 0, 1, 2, 3, 6, 4, 5, 7, 7);
        follows("@fx=x;f 3", 50, 0, 1, 4, 5, 6, 7, 8, 2, 3, 9, 10, 10);
        follows("?E{A:1;E:2;}", 50, 0, 1, 6, 7, 8, 8);
        follows("?B(1){Bx:x;}", 50, 0, 1, 2, 4, 5, 6, 7, 8, 8);
        ClosureHeap x = Check.ended(50, "1+A");
        Check.due("of the ADD that stopped", x.next(), 3);
        Check.recompile(x, "12");
        Check.due("anew", x.next(), 0);
        Check.finish();
    }

    private static void follows(String text, int words, int... places) {
        ClosureHeap x = Check.compiled(words, text);
        for (int i = 0; i < places.length; i++) {
            Check.due("next after " + i + " instructions of " + text, x.next(), places[i]);
            if (i + 1 < places.length) {
                Check.due("run(1)", x.run(1), 1);
            }
        }
        Check.due("state of " + text, x.state(), 2);
    }
}
