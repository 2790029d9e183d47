/** Runs many made programs beside the model, and compares every answer after every instruction. */
public final class MachineModelTest {
    private static final int PROGRAMS = 3000;
    /** Runs of one object, whose calls are below 512 then. */
    private static final int COMPARED = 18;
    private static final String[] WRITTEN = {
        "@ln=?n<1{E:A;A:C(n,l(n-1));};@sx=?x{A:0;Cht:h+s t;};s(l 6)",
        "@ln=?n<1{E:A;A:C(n,l(n-1));};@mx=?x{A:A;Cht:C(h*h,m t);};m(l 5)",
        "@fx=?x<2{E:x;A:f(x-1)+f(x-2);};f 9",
        "@tn=?n<1{E:A;A:D(n,t(n-1),t(n-2));};t 4",
        "@fx=f(H(x,x,\\y 1));f 0",
        "@fx=f x;1+f 0",
        "@fx=x+f(x+1);f 0",
        "@fx=C(x,f(x+1));f 0",
        "@fx=\\y?x<1{E:y;A:f(x-1)(y*3);};f(9)(1)",
        "s=\\f f;k=\\x\\y x;s k(3)(4)",
        "@fx=?x<1{E:0;A:f(x-1);};f(15)+f(15)+f(15)",
        "@fx=?x~0{E:A;A:C(\\y x+y,f(x-1));};?f 5{Cab:?b{Ccd:C(a 9,c 9);};}",
    };
    private static final int[] ends = new int[4];
    private static int turns = 0;

    public static void main(String[] args) {
        Programs programs = new Programs(7);
        for (int i = 0; i < PROGRAMS; i++) {
            Programs.Program program = programs.next();
            if (program.code.size() <= 120) {
                compare(program.text, programs.random(3) == 0 ? 200 : 20 + programs.random(60), programs);
            }
        }
        for (String text : WRITTEN) {
            for (int words = 20; words <= 200; words++) {
                compare(text, words, programs);
            }
        }
        for (int why = 0; why < ends.length; why++) {
            Check.due("some end with " + why, ends[why] > 100, true);
        }
        Check.due("many collections", turns > 1000, true);
        Check.finish();
    }

    private static void compare(String text, int words, Programs programs) {
        ClosureHeap other = new ClosureHeap(words);
        Check.type(other, text);
        MachineModel model = new MachineModel(words, other, other.compile());
        int steps = 0;
        while (steps < 2500 && model.state() == 1) {
            ClosureHeap x = Check.after(steps, words, text);
            for (int i = 0; i < COMPARED && model.state() == 1; i++) {
                steps += compareRun(x, model, 1 + programs.random(programs.random(10) == 0 ? 500 : 3), text);
                answers(x, model, "words " + words + ", " + text, programs);
            }
        }
        ends[model.why]++;
        turns += model.collections;
    }

    private static int compareRun(ClosureHeap x, MachineModel model, int n, String text) {
        int count = 0;
        while (count < n && model.state() == 1 && model.step()) {
            count++;
        }
        int due = model.state() == 3 ? Check.UNSUPPORTED : 0;
        int[] got = {-1};
        Check.dueThrown("run(" + n + ") of " + text, () -> got[0] = x.run(n), due);
        if (due == 0) {
            Check.due("run(" + n + ") of " + text, got[0], count);
        }
        return count;
    }

    private static void answers(ClosureHeap x, MachineModel model, String text, Programs programs) {
        Check.due("state, " + text, x.state(), model.state());
        Check.due("why, " + text, x.why(), model.why);
        Check.due("next, " + text, x.next(), model.next);
        Check.due("depth, " + text, x.depth(), model.depth());
        Check.due("used, " + text, x.used(), model.used);
        if (programs.random(2) == 0) {
            Check.due("live, " + text, x.live(), model.live());
        }
        Check.due("collections, " + text, x.collections(), model.collections);
        for (int i = 0; i < 6; i++) {
            int path = i == 0 ? 0 : programs.random(i < 3 ? 64 : 1 << 30);
            Check.due("kind(" + path + "), " + text, x.kind(path), model.kind(path));
            Check.due("value(" + path + "), " + text, x.value(path), model.value(path));
        }
    }
}
