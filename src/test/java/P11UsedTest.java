/** Promise 11: used. */
public final class P11UsedTest {
    public static void main(String[] args) {
        Check.due("no code", new ClosureHeap(50).used(), 0);
        // NUMBER BIND ACCESS UNBIND HALT
        follows("a=1;a", 0, 3, 3, 3, 3);
        // NUMBER PUSH CLOSURE JUMP APPLY ACCESS RETURN HALT
        follows("(\\x x)3", 0, 0, 3, 3, 6, 6, 6, 6);
        // SELF JUMP BIND NUMBER PUSH ACCESS APPLY ACCESS RETURN UNBIND HALT
        follows("@fx=x;f 3", 3, 3, 6, 6, 6, 6, 12, 12, 12, 12, 12);
        follows("B(1)", 0, 2, 2);
        follows("C(1,2)", 0, 0, 0, 3, 3);
        follows("D(1,2,3)", 0, 0, 0, 0, 0, 4, 4);
        follows("A", 0, 0);
        // NUMBER PUSH NUMBER PUSH NUMBER MAKE SWITCH OPEN ACCESS UNBIND JUMP HALT
        follows("?D(1,2,3){Dxyz:x;}", 0, 0, 0, 0, 0, 4, 4, 13, 13, 13, 13, 13);
        ClosureHeap x = Check.ended(50, "a=1;a");
        Check.recompile(x, "1");
        Check.due("anew", x.used(), 0);
        Check.finish();
    }

    private static void follows(String text, int... used) {
        ClosureHeap x = Check.compiled(100, text);
        for (int i = 0; i < used.length; i++) {
            Check.due("run(1)", x.run(1), 1);
            Check.due("used after " + (i + 1) + " instructions of " + text, x.used(), used[i]);
        }
    }
}
