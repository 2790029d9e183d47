/** Promises 14 and 15: kind and value, at the end of a path. */
public final class P14KindP15ValueTest {
    private static final int INT = 1;
    private static final int TAGGED = 2;
    private static final int FUNCTION = 3;

    public static void main(String[] args) {
        ends();
        steps();
        pathsThatEndEarly();
        longestPath();
        whileItRuns();
        Check.finish();
    }

    private static void at(ClosureHeap x, int path, int kind, int value) {
        Check.due("kind(" + path + ")", x.kind(path), kind);
        Check.due("value(" + path + ")", x.value(path), value);
    }

    /** The path of some steps, the first one first. */
    private static int path(int... steps) {
        int path = 0;
        for (int i = steps.length - 1; i >= 0; i--) {
            path = path << 2 | steps[i];
        }
        return path;
    }

    private static void ends() {
        at(new ClosureHeap(50), 0, INT, 0);
        at(new ClosureHeap(50), 1, 0, 0);
        at(new ClosureHeap(50), -1, 0, 0);
        at(Check.ended(50, "7"), 0, INT, 7);
        at(Check.ended(50, "0-7"), 0, INT, -7);
        at(Check.ended(50, "1024*1024*1024"), 0, INT, -1073741824);
        at(Check.ended(50, "1024*1024*1024-1"), 0, INT, 1073741823);
        at(Check.ended(50, "A"), 0, TAGGED, 0);
        at(Check.ended(50, "E"), 0, TAGGED, 4);
        at(Check.ended(50, "1<0"), 0, TAGGED, 0);
        at(Check.ended(50, "0<1"), 0, TAGGED, 4);
        at(Check.ended(50, "B(1)"), 0, TAGGED, 1);
        at(Check.ended(50, "H(1,2,3)"), 0, TAGGED, 7);
        at(Check.ended(50, "\\x 1"), 0, FUNCTION, 2);
        at(Check.ended(50, "a=1;@fx=1;f"), 0, FUNCTION, 4);
        for (String text : new String[] {"7", "A", "E", "\\x 1", "@fx=1;f"}) {
            for (int step = 1; step <= 3; step++) {
                at(Check.ended(50, text), step, 0, 0);
                at(Check.ended(50, text), path(step, 1), 0, 0);
            }
        }
    }

    private static void steps() {
        ClosureHeap x = Check.ended(100, "H(C(1,E),\\x x,D(B(0-5),F(A),G(3,@fx=1;f)))");
        at(x, path(), TAGGED, 7);
        at(x, path(1), TAGGED, 2);
        at(x, path(1, 1), INT, 1);
        at(x, path(1, 2), TAGGED, 4);
        at(x, path(1, 3), 0, 0);
        at(x, path(1, 2, 1), 0, 0);
        at(x, path(2), FUNCTION, 7);
        at(x, path(2, 1), 0, 0);
        at(x, path(2, 2), 0, 0);
        at(x, path(2, 3), 0, 0);
        at(x, path(3), TAGGED, 3);
        at(x, path(3, 1), TAGGED, 1);
        at(x, path(3, 1, 1), INT, -5);
        at(x, path(3, 1, 2), 0, 0);
        at(x, path(3, 1, 1, 1), 0, 0);
        at(x, path(3, 2), TAGGED, 5);
        at(x, path(3, 2, 1), TAGGED, 0);
        at(x, path(3, 3), TAGGED, 6);
        at(x, path(3, 3, 1), INT, 3);
        Check.due("kind of SELF", x.kind(path(3, 3, 2)), FUNCTION);
        Check.due("its place", x.code(x.value(path(3, 3, 2)) - 2, 0), Check.kindOf("SELF"));
    }

    private static void pathsThatEndEarly() {
        ClosureHeap x = Check.ended(100, "C(8,B(9))");
        at(x, path(0, 1), TAGGED, 2);
        at(x, path(0, 3, 3), TAGGED, 2);
        at(x, Integer.MIN_VALUE, TAGGED, 2);
        at(x, path(1, 0, 3), INT, 8);
        at(x, path(2, 1, 0, 2, 2), INT, 9);
        at(x, 1 | Integer.MIN_VALUE, INT, 8);
    }

    private static void longestPath() {
        // 16 blocks, each in the third field of the one before
        String text = "@fx=D(1,2,x);x=f(f(f(f 5)));x=f(f(f(f x)));x=f(f(f(f x)));f(f(f(f x)))";
        ClosureHeap x = Check.ended(200, text);
        Check.due("state", x.state(), 2);
        at(x, -1, INT, 5);
        at(x, -1 >>> 2, TAGGED, 3);
        at(x, -1 >>> 1 & ~(3 << 28), TAGGED, 3);
        at(x, -1 ^ 1 << 31, INT, 1);
        at(x, -1 ^ 1 << 30, INT, 2);
        at(x, -1 ^ 3 << 28, TAGGED, 3);
        ClosureHeap y = Check.ended(200, text.replace("f(f(f(f x)))", "f(f(f x))"));
        at(y, -1, 0, 0);
        at(y, -1 >>> 2, 0, 0);
    }

    private static void whileItRuns() {
        ClosureHeap x = Check.compiled(100, "(\\x B(x))3");
        at(x, 0, INT, 0);
        x.run(1);
        at(x, 0, INT, 3);
        x.run(2);
        at(x, 0, FUNCTION, 4);
        x.run(2);
        Check.due("in the function", x.next(), 4);
        at(x, 0, FUNCTION, 4);
        x.run(1);
        at(x, 0, INT, 3);
        x.run(1);
        at(x, 0, TAGGED, 1);
        at(x, 1, INT, 3);
        ClosureHeap y = Check.ended(50, "B(1)+1");
        at(y, 0, INT, 1);
    }
}
