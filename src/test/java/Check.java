/** Counts the answers that are not as due, and makes objects with a text or its code. */
final class Check {
    static final int ILLEGAL_ARGUMENT = 1;
    static final int ILLEGAL_STATE = 2;
    static final int UNSUPPORTED = 3;

    private static final String[] KINDS = {
        "HALT", "NUMBER", "ACCESS", "PUSH", "ADD", "SUBTRACT", "MULTIPLY", "LESS", "SAME", "CLOSURE", "SELF",
        "JUMP", "RETURN", "APPLY", "BIND", "UNBIND", "TAG", "MAKE", "SWITCH", "CASE", "OPEN"
    };

    private static int wrong = 0;
    private static int asked = 0;

    private Check() {
    }

    interface Call {
        int answer();
    }

    static void due(String what, long got, long want) {
        asked++;
        if (got != want) {
            wrong++;
            System.out.println(what + " answered " + got + ", due is " + want);
        }
    }

    static void due(String what, boolean got, boolean want) {
        due(what, got ? 1 : 0, want ? 1 : 0);
    }

    static void due(String what, String got, String want) {
        asked++;
        if (!got.equals(want)) {
            wrong++;
            System.out.println(what + " answered\n  " + got + "\ndue is\n  " + want);
        }
    }

    /** Which of the document's exceptions the call throws, 0 if none. */
    static int thrown(Call call) {
        try {
            call.answer();
            return 0;
        } catch (IllegalArgumentException e) {
            return ILLEGAL_ARGUMENT;
        } catch (IllegalStateException e) {
            return ILLEGAL_STATE;
        } catch (UnsupportedOperationException e) {
            return UNSUPPORTED;
        }
    }

    static void dueThrown(String what, Call call, int want) {
        due(what + ": the exception", thrown(call), want);
    }

    static void finish() {
        System.out.println(wrong == 0 ? asked + " answers are as due" : wrong + " of " + asked + " are not as due");
        if (wrong != 0 || asked == 0) {
            System.exit(1);
        }
    }

    static void type(ClosureHeap x, String text) {
        for (int i = 0; i < text.length(); i++) {
            due("write of character " + i + " of " + text, x.write(text.charAt(i)), true);
        }
    }

    static ClosureHeap compiled(int words, String text) {
        ClosureHeap x = new ClosureHeap(words);
        recompile(x, text);
        return x;
    }

    static void recompile(ClosureHeap x, String text) {
        type(x, text);
        dueThrown("compile of " + text, x::compile, 0);
    }

    /** Compiles and runs until the machine ends or stops, or has done as many instructions as it may. */
    static ClosureHeap ended(int words, String text) {
        ClosureHeap x = compiled(words, text);
        for (int i = 0; i < 40 && x.state() == 1; i++) {
            thrown(() -> x.run(500));
        }
        return x;
    }

    static String codeOf(ClosureHeap x) {
        StringBuilder row = new StringBuilder();
        for (int k = 0; x.code(k, 0) != ClosureHeap.NONE; k++) {
            int kind = x.code(k, 0);
            row.append(k == 0 ? "" : " ").append(kind >= 0 && kind < KINDS.length ? KINDS[kind] : "?" + kind);
            int a = x.code(k, 1);
            int b = x.code(k, 2);
            if (a != 0 || b != 0) {
                row.append(':').append(a);
            }
            if (b != 0) {
                row.append(':').append(b);
            }
        }
        return row.toString();
    }

    static int kindOf(String name) {
        for (int i = 0; i < KINDS.length; i++) {
            if (KINDS[i].equals(name)) {
                return i;
            }
        }
        throw new IllegalArgumentException(name);
    }

    static String repeated(String part, int times) {
        return part.repeat(times);
    }
}
