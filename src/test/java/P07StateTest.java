/** Promise 7: state. */
public final class P07StateTest {
    public static void main(String[] args) {
        ClosureHeap x = new ClosureHeap(50);
        Check.due("no code", x.state(), 0);
        Check.type(x, "1+A");
        Check.due("a text alone is no code", x.state(), 0);
        Check.due("compile", x.compile(), 5);
        Check.due("code", x.state(), 1);
        x.run(3);
        Check.due("before the ADD", x.state(), 1);
        Check.dueThrown("ADD", () -> x.run(1), Check.UNSUPPORTED);
        Check.due("stopped", x.state(), 3);
        Check.dueThrown("run", () -> x.run(1), Check.ILLEGAL_STATE);
        Check.due("still stopped", x.state(), 3);
        Check.recompile(x, "1");
        Check.due("code again", x.state(), 1);
        x.run(1);
        Check.due("before HALT", x.state(), 1);
        x.run(1);
        Check.due("DONE", x.state(), 2);
        Check.dueThrown("run", () -> x.run(1), Check.ILLEGAL_STATE);
        Check.due("still DONE", x.state(), 2);
        Check.finish();
    }
}
