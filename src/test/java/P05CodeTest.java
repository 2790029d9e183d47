/** Promise 5: code. */
public final class P05CodeTest {
    public static void main(String[] args) {
        ClosureHeap x = Check.compiled(100, "?B(9999){Bx:x;E:1;}");
        int[][] want = {
            {1, 9999, 0}, {17, 1, 0}, {18, 2, 0}, {19, 1, 5}, {19, 4, 9}, {20, 1, 0}, {2, 0, 0}, {15, 1, 0}, {11, 11, 0},
            {1, 1, 0}, {11, 11, 0}, {0, 0, 0}
        };
        all(x, want);
        x.run(5);
        all(x, want);
        edges(x, want.length);
        kinds();
        shorterCode();
        Check.finish();
    }

    private static void all(ClosureHeap x, int[][] want) {
        for (int k = 0; k < want.length; k++) {
            for (int what = 0; what < 3; what++) {
                Check.due("code(" + k + ", " + what + ")", x.code(k, what), want[k][what]);
            }
        }
    }

    private static void edges(ClosureHeap x, int length) {
        int[] outside = {-1, length, 119, 120, 360, Integer.MIN_VALUE, Integer.MAX_VALUE};
        for (int k : outside) {
            for (int what = -1; what < 4; what++) {
                Check.due("code(" + k + ", " + what + ")", x.code(k, what), ClosureHeap.NONE);
            }
        }
        for (int what : new int[] {-1, 3, 4, Integer.MIN_VALUE, Integer.MAX_VALUE}) {
            Check.due("code(0, " + what + ")", x.code(0, what), ClosureHeap.NONE);
            Check.due("code(1, " + what + ")", x.code(1, what), ClosureHeap.NONE);
        }
        Check.due("code of a new object", new ClosureHeap(50).code(0, 0), ClosureHeap.NONE);
    }

    private static void kinds() {
        ClosureHeap x = Check.compiled(100, "@fx=1+2-3*4;\\y?A<f 1{A:D(1,2~3,E);Bz:z;}");
        int[] want = {
            10, 11, 1, 3, 1, 4, 3, 1, 3, 1, 6, 5, 12, 14, 9, 11, 16, 3, 1, 3, 2, 13, 7, 18, 19, 19, 1, 3, 1, 3, 1, 8, 3,
            16, 17, 11, 20, 2, 15, 11, 12, 15, 0
        };
        for (int k = 0; k < want.length; k++) {
            Check.due("kind of instruction " + k, x.code(k, 0), want[k]);
        }
        Check.due("none behind HALT", x.code(want.length, 0), ClosureHeap.NONE);
    }

    private static void shorterCode() {
        ClosureHeap x = Check.compiled(100, "1+1+1");
        Check.recompile(x, "3");
        Check.due("HALT", x.code(1, 0), 0);
        Check.due("nothing of the code before", x.code(2, 0), ClosureHeap.NONE);
    }
}
