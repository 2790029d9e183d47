/** Calls of all kinds with arguments of all kinds: only the document's exceptions come, and no answer is out of bounds. */
public final class AnyCallsTest {
    private static final String LIKELY = "abxf\\@=;?{}:ABCDEFGH(),+-*<~0129 ";
    private static final int OBJECTS = 3000;

    public static void main(String[] args) {
        Programs random = new Programs(99);
        for (int i = 0; i < OBJECTS; i++) {
            int words = random.random(5) == 0 ? any(random) : random.random(250);
            object(new ClosureHeap(words), Math.max(20, Math.min(200, words)), random);
        }
        Check.finish();
    }

    private static int any(Programs random) {
        int bits = random.random(1 << 16) << 16 | random.random(1 << 16);
        return bits >> random.random(32);
    }

    private static void object(ClosureHeap x, int words, Programs random) {
        int calls = 0;
        while (calls < 500) {
            int choice = random.random(40);
            if (choice == 0 && random.random(3) == 0) {
                String text = random.next().text;
                for (int i = 0; i < text.length() && calls < 500; i++) {
                    x.write(text.charAt(i));
                    calls++;
                }
            } else if (choice < 20) {
                x.write(random.random(30) == 0 ? (char) any(random) : LIKELY.charAt(random.random(LIKELY.length())));
                calls++;
            } else if (choice < 22) {
                calls += compile(x);
            } else if (choice < 26) {
                calls += run(x, random.random(6) == 0 ? any(random) : random.random(60));
            } else if (random.random(4) == 0) {
                calls += ask(x, words, random);
            }
        }
    }

    /** This and the next ones answer how many calls they make. */
    private static int compile(ClosureHeap x) {
        int state = x.state();
        int next = x.next();
        int thrown = Check.thrown(x::compile);
        Check.due("place and exception", x.place() >= 0, thrown == Check.ILLEGAL_ARGUMENT);
        Check.due("state", x.state(), thrown == 0 ? 1 : state);
        Check.due("next", x.next(), thrown == 0 ? 0 : next);
        return 6;
    }

    private static int run(ClosureHeap x, int n) {
        int state = x.state();
        int thrown = Check.thrown(() -> x.run(n));
        if (n < 0 || n > 500) {
            Check.due("run(" + n + ")", thrown, Check.ILLEGAL_ARGUMENT);
        } else if (state != 1) {
            Check.due("run(" + n + ")", thrown, Check.ILLEGAL_STATE);
        } else {
            Check.due("run(" + n + ")", thrown == Check.UNSUPPORTED, x.state() == 3);
        }
        return 3;
    }

    private static void within(String what, int got, int least, int most) {
        Check.due(what + " is " + got, got >= least && got <= most, true);
    }

    private static int ask(ClosureHeap x, int words, Programs random) {
        within("state", x.state(), 0, 3);
        within("why", x.why(), 0, 3);
        within("place", x.place(), -1, 90);
        within("next", x.next(), 0, 119);
        within("depth", x.depth(), 0, 40);
        within("used", x.used(), 0, words);
        within("live", x.live(), 0, x.used());
        within("collections", x.collections(), 0, 30000);
        within("kind", x.kind(any(random)), 0, 3);
        within("value", x.value(any(random)), -1 << 30, (1 << 30) - 1);
        within("code", x.code(any(random), any(random)), -1, 9999);
        return 12;
    }
}
