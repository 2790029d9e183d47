/** Promise 8: why. */
public final class P08WhyTest {
    public static void main(String[] args) {
        Check.due("no code", new ClosureHeap(50).why(), 0);
        Check.due("it can go on", Check.compiled(50, "1+A").why(), 0);
        Check.due("DONE", Check.ended(50, "1+1").why(), 0);
        Check.due("WRONG", Check.ended(50, "1+A").why(), 1);
        Check.due("FULL", Check.ended(20, "@fx=f(x+1);f 0").why(), 2);
        Check.due("DEEP", Check.ended(200, "@fx=f(x+1);f 0").why(), 3);
        ClosureHeap x = Check.ended(50, "1+A");
        Check.dueThrown("run", () -> x.run(1), Check.ILLEGAL_STATE);
        Check.due("still WRONG", x.why(), 1);
        Check.recompile(x, "1+1");
        Check.due("not any more", x.why(), 0);
        Check.finish();
    }
}
