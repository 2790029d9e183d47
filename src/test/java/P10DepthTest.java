/** Promise 10: depth. */
public final class P10DepthTest {
    public static void main(String[] args) {
        Check.due("no code", new ClosureHeap(50).depth(), 0);
        // NUMBER PUSH NUMBER PUSH NUMBER MULTIPLY ADD HALT
        follows("1+2*3", 0, 1, 1, 2, 2, 1, 0, 0);
        // NUMBER PUSH NUMBER PUSH NUMBER MAKE HALT
        follows("D(1,2,3)", 0, 1, 1, 2, 2, 0, 0);
        // NUMBER PUSH NUMBER MAKE SWITCH OPEN ACCESS UNBIND JUMP HALT
        follows("?C(1,2){Cxy:x;}", 0, 1, 1, 0, 0, 0, 0, 0, 0, 0);
        // NUMBER PUSH CLOSURE JUMP APPLY ACCESS RETURN HALT
        follows("(\\x x)3", 0, 1, 1, 1, 2, 2, 0, 0);
        // NUMBER PUSH NUMBER PUSH CLOSURE JUMP APPLY CLOSURE JUMP RETURN APPLY
        follows("(\\x\\y x)(1)2", 0, 1, 1, 2, 2, 2, 3, 3, 3, 1, 2);
        Check.due("40 at most", Check.ended(200, "@fx=f x;f 0").depth(), 40);
        ClosureHeap x = Check.ended(50, "1+A");
        Check.due("what stops takes nothing", x.depth(), 1);
        Check.recompile(x, "1");
        Check.due("anew", x.depth(), 0);
        Check.finish();
    }

    private static void follows(String text, int... depths) {
        ClosureHeap x = Check.compiled(100, text);
        for (int i = 0; i < depths.length; i++) {
            Check.due("run(1)", x.run(1), 1);
            Check.due("depth after " + (i + 1) + " instructions of " + text, x.depth(), depths[i]);
        }
    }
}
