/** Promise 12: live. */
public final class P12LiveTest {
    public static void main(String[] args) {
        Check.due("no code", new ClosureHeap(50).live(), 0);
        // NUMBER BIND ACCESS UNBIND HALT
        follows("a=1;a", 0, 3, 3, 0, 0);
        // NUMBER PUSH CLOSURE JUMP APPLY ACCESS RETURN HALT: the function stays in the accumulator
        follows("(\\x x)3", 0, 0, 3, 3, 6, 3, 0, 0);
        // SELF JUMP BIND NUMBER PUSH ACCESS APPLY ACCESS RETURN UNBIND HALT
        follows("@fx=x;f 3", 3, 3, 6, 6, 6, 6, 12, 12, 6, 0, 0);
        // NUMBER MAKE PUSH NUMBER MAKE: on the stack
        follows("C(B(1),B(2))", 0, 2, 2, 2, 4, 7, 7);
        // NUMBER MAKE BIND ACCESS PUSH ACCESS PUSH ACCESS MAKE UNBIND: a shared block counts once
        follows("a=B(1);D(a,a,a)", 0, 2, 5, 5, 5, 5, 5, 5, 9, 6, 6);
        // NUMBER PUSH NUMBER MAKE SWITCH OPEN NUMBER: the block was in the accumulator alone
        follows("?C(1,2){Cxy:7;}", 0, 0, 0, 3, 3, 9, 6, 0, 0, 0);
        // NUMBER BIND CLOSURE JUMP UNBIND HALT: through a function's environment
        follows("a=1;\\x a", 0, 3, 6, 6, 6, 6);
        askingChangesNothing();
        Check.finish();
    }

    private static void follows(String text, int... live) {
        ClosureHeap x = Check.compiled(100, text);
        for (int i = 0; i < live.length; i++) {
            Check.due("run(1)", x.run(1), 1);
            Check.due("live after " + (i + 1) + " instructions of " + text, x.live(), live[i]);
        }
    }

    private static void askingChangesNothing() {
        String text = "a=(\\x x)1;a=(\\x x)2;a=(\\x x)3;a=(\\x x)4;B(a)";
        ClosureHeap asked = Check.compiled(20, text);
        ClosureHeap unasked = Check.compiled(20, text);
        for (int i = Check.lengthOfRun(20, text); i > 0; i--) {
            int live = asked.live();
            Check.due("asked twice", asked.live(), live);
            Check.due("not more than used", live <= asked.used(), true);
            asked.run(1);
            unasked.run(1);
            Check.due("used", asked.used(), unasked.used());
            Check.due("collections", asked.collections(), unasked.collections());
        }
        Check.due("state", asked.state(), 2);
        Check.due("value", asked.value(1), 4);
        Check.due("collections", asked.collections(), 2);
    }
}
