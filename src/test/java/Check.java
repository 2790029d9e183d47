/**
 * Counts the answers that are not as due, and asks what most tests ask of a text, its code and its run.
 * The document promises nothing of an object after 512 calls: tests that ask much make new objects.
 */
final class Check {
    static final int ILLEGAL_ARGUMENT = 1;
    static final int ILLEGAL_STATE = 2;
    static final int UNSUPPORTED = 3;

    private static final String[] KINDS = {
        "HALT", "NUMBER", "ACCESS", "PUSH", "ADD", "SUBTRACT", "MULTIPLY", "LESS", "SAME", "CLOSURE", "SELF",
        "JUMP", "RETURN", "APPLY", "BIND", "UNBIND", "TAG", "MAKE", "SWITCH", "CASE", "OPEN"
    };

    private static int wrong = 0;
    private static int asked = 0;
    /** The sentence of the document that is tested, told with each wrong answer. */
    private static String sentence = "";

    private Check() {
    }

    interface Call {
        int answer();
    }

    static void sentence(String words) {
        sentence = "[" + words + "] ";
    }

    static void due(String what, long got, long want) {
        asked++;
        if (got != want) {
            wrong++;
            System.out.println(sentence + what + " answered " + got + ", due is " + want);
        }
    }

    static void due(String what, boolean got, boolean want) {
        due(what, got ? 1 : 0, want ? 1 : 0);
    }

    static void due(String what, String got, String want) {
        asked++;
        if (!got.equals(want)) {
            wrong++;
            System.out.println(sentence + what + " answered\n  " + got + "\ndue is\n  " + want);
        }
    }

    /** Which of the document's exceptions the call throws, 0 if none. */
    static int thrown(Call call) {
        try {
            call.answer();
            return 0;
        } catch (IllegalArgumentException e) {
            return ILLEGAL_ARGUMENT;
        } catch (IllegalStateException e) {
            return ILLEGAL_STATE;
        } catch (UnsupportedOperationException e) {
            return UNSUPPORTED;
        }
    }

    static void dueThrown(String what, Call call, int want) {
        due(what + ": the exception", thrown(call), want);
    }

    static void finish() {
        System.out.println(wrong == 0 ? asked + " answers are as due" : wrong + " of " + asked + " are not as due");
        if (wrong != 0 || asked == 0) {
            System.exit(1);
        }
    }

    static void type(ClosureHeap x, String text) {
        for (int i = 0; i < text.length(); i++) {
            due("write of character " + i + " of " + text, x.write(text.charAt(i)), true);
        }
    }

    static ClosureHeap compiled(int words, String text) {
        ClosureHeap x = new ClosureHeap(words);
        recompile(x, text);
        return x;
    }

    static void recompile(ClosureHeap x, String text) {
        type(x, text);
        dueThrown("compile of " + text, x::compile, 0);
    }

    /** Compiles and runs until the machine ends or stops, or has done as many instructions as it may. */
    static ClosureHeap ended(int words, String text) {
        ClosureHeap x = compiled(words, text);
        for (int i = 0; i < 40 && x.state() == 1; i++) {
            thrown(() -> x.run(500));
        }
        return x;
    }

    /** A new object with the text's code, of which so many instructions are done. */
    static ClosureHeap after(int instructions, int words, String text) {
        ClosureHeap x = compiled(words, text);
        for (int left = instructions; left > 0 && x.state() == 1; left -= 500) {
            int n = Math.min(500, left);
            thrown(() -> x.run(n));
        }
        return x;
    }

    /** How many instructions are done until the machine ends or stops, for less than 400. */
    static int lengthOfRun(int words, String text) {
        ClosureHeap x = compiled(words, text);
        int count = 0;
        while (count < 400 && thrown(() -> x.run(1)) == 0) {
            count++;
        }
        due("the run of " + text + " ends", x.state() > 1, true);
        return count;
    }

    static String codeOf(ClosureHeap x) {
        StringBuilder row = new StringBuilder();
        int kind = x.code(0, 0);
        for (int k = 0; k <= 120 && kind != ClosureHeap.NONE; k++) {
            row.append(k == 0 ? "" : " ").append(kind >= 0 && kind < KINDS.length ? KINDS[kind] : "?" + kind);
            int a = x.code(k, 1);
            int b = x.code(k, 2);
            if (a != 0 || b != 0) {
                row.append(':').append(a);
            }
            if (b != 0) {
                row.append(':').append(b);
            }
            kind = x.code(k + 1, 0);
        }
        return row.toString();
    }

    static int kindOf(String name) {
        for (int i = 0; i < KINDS.length; i++) {
            if (KINDS[i].equals(name)) {
                return i;
            }
        }
        throw new IllegalArgumentException(name);
    }

    static void code(String text, String want) {
        ClosureHeap x = new ClosureHeap(100);
        type(x, text);
        int[] count = {-1};
        dueThrown("compile of " + text, () -> count[0] = x.compile(), 0);
        due("code of " + text, codeOf(x), want);
        due("instructions of " + text, count[0], want.split(" ").length);
        due("place of " + text, x.place(), ClosureHeap.NONE);
        due("state of " + text, x.state(), 1);
    }

    static void ill(String text, int want) {
        ClosureHeap x = new ClosureHeap(100);
        type(x, text);
        dueThrown("compile of " + text, x::compile, ILLEGAL_ARGUMENT);
        due("place of " + text, x.place(), want);
        due("state of " + text, x.state(), 0);
    }

    static void well(String text) {
        due("place of " + text, compiled(100, text).place(), ClosureHeap.NONE);
    }

    static void gives(String text, int kind, int value) {
        ClosureHeap x = ended(200, text);
        due("state of " + text, x.state(), 2);
        due("kind of " + text, x.kind(0), kind);
        due("value of " + text, x.value(0), value);
        due("the stack of " + text, x.depth(), 0);
    }

    static void stops(int words, String text, int why, int next, int depth) {
        ClosureHeap x = ended(words, text);
        due("state of " + text, x.state(), 3);
        due("why of " + text, x.why(), why);
        due("next of " + text, x.next(), next);
        due("depth of " + text, x.depth(), depth);
    }

    static String repeated(String part, int times) {
        return part.repeat(times);
    }
}
