/** The sentences of promises 1 to 15 that name a boundary case, a method for each. */
public final class EdgesOfCallsTest {
    private static final int NONE = ClosureHeap.NONE;
    /** For each last digit of a number of words: what is bound first, so that 12 or 16 more, and tens, make that number. */
    private static final String[] FIRST = {
        "a=1;a=B(1);", "a=B(1);", "", "a=1;a=1;a=B(1);", "a=1;a=B(1);", "a=1;", "", "a=B(1);", "a=1;a=1;", "a=1;"
    };
    private static final int[] ANY = {
        Integer.MIN_VALUE, Integer.MIN_VALUE + 1, -65536, -501, -121, -4, -3, -2, -1, Integer.MAX_VALUE, Integer.MAX_VALUE - 1
    };

    public static void main(String[] args) {
        callsOfAnObject();
        halvesOfSoManyWords();
        nearestFrom20();
        nearestTo200();
        noTextNoCode();
        writeAppends();
        writeRefused();
        compileTakesTheText();
        compileInPlaceOfTheOneBefore();
        compileCounts();
        compileBeginsAnew();
        compileIll();
        placeOfTheLatest();
        codeOfNone();
        runUpToN();
        runWhatStopsIsNotCounted();
        runWrongN();
        runIllegalState();
        runStops();
        states();
        reasons();
        nextPlaces();
        depths();
        usedWords();
        liveWords();
        collectionsSinceTheCode();
        kindOfNone();
        pathSteps();
        pathEnds();
        valueOfAll();
        Check.finish();
    }

    /** All words that it makes can be reached: so many exactly, if they have room. It ends when they have no room. */
    private static String filling(int words) {
        return FIRST[words % 10] + "@fx=f(H(x,x,x));f 0";
    }

    private static void callsOfAnObject() {
        Check.sentence("An object is used for at most 512 calls after it has been made");
        ClosureHeap x = new ClosureHeap(20);
        int calls = 0;
        for (int i = 0; calls + 8 <= 512; i = (i + 1) % 10) {
            Check.due("write", x.write((char) ('0' + i)), true);
            Check.due("write", x.write('+'), true);
            Check.due("write", x.write('1'), true);
            Check.due("compile", x.compile(), 5);
            Check.due("run", x.run(500), 5);
            Check.due("value", x.value(0), i + 1);
            Check.due("state", x.state(), 2);
            Check.dueThrown("run", () -> x.run(0), Check.ILLEGAL_STATE);
            calls += 8;
        }
        ClosureHeap ill = new ClosureHeap(20);
        for (int i = 0; i < 256; i++) {
            Check.dueThrown("compile of no text", ill::compile, Check.ILLEGAL_ARGUMENT);
            Check.due("place", ill.place(), 0);
        }
        ClosureHeap asked = Check.compiled(200, filling(200));
        for (int i = 0; i < 160; i++) {
            Check.thrown(() -> asked.run(500));
            Check.due("live", asked.live(), 200);
            Check.due("used", asked.used(), 200);
        }
    }

    private static void halvesOfSoManyWords() {
        Check.sentence("Halves of so many words");
        for (int words = 20; words <= 200; words++) {
            ClosureHeap x = Check.ended(words, filling(words));
            Check.due("why, with " + words, x.why(), 2);
            Check.due("used, with " + words, x.used(), words);
            Check.due("live, with " + words, x.live(), words);
            if (words > 20) {
                ClosureHeap less = Check.ended(words - 1, filling(words));
                Check.due("used with a word less than " + words, less.used() < words, true);
            }
        }
    }

    private static void nearestFrom20() {
        Check.sentence("the nearest number from 20");
        for (int words : new int[] {19, 18, 10, 3, 2, 1, 0, -1, -20, -200, Integer.MIN_VALUE}) {
            Check.due("20 words, with " + words, Check.ended(words, filling(20)).used(), 20);
            Check.due("not 21 words, with " + words, Check.ended(words, filling(21)).used(), 17);
        }
        Check.due("20 words, with 20", Check.ended(20, filling(20)).used(), 20);
        Check.due("21 words, with 21", Check.ended(21, filling(21)).used(), 21);
    }

    private static void nearestTo200() {
        Check.sentence("to 200");
        for (int words : new int[] {201, 202, 255, 256, 400, 1000, 65536, Integer.MAX_VALUE}) {
            Check.due("200 words, with " + words, Check.ended(words, filling(200)).used(), 200);
            ClosureHeap over = Check.ended(words, filling(201));
            Check.due("not 201 words, with " + words, over.why(), 2);
            Check.due("used, with " + words, over.used(), 197);
        }
        Check.due("200 words, with 200", Check.ended(200, filling(200)).used(), 200);
        Check.due("not 200 words, with 199", Check.ended(199, filling(200)).used(), 194);
    }

    private static void noTextNoCode() {
        Check.sentence("No text, no code");
        ClosureHeap x = new ClosureHeap(100);
        Check.due("state", x.state(), 0);
        Check.due("code", Check.codeOf(x), "");
        Check.due("place", x.place(), NONE);
        Check.due("why", x.why(), 0);
        Check.due("next", x.next(), 0);
        Check.due("depth", x.depth(), 0);
        Check.due("used", x.used(), 0);
        Check.due("live", x.live(), 0);
        Check.due("collections", x.collections(), 0);
        Check.due("kind", x.kind(0), 1);
        Check.due("value", x.value(0), 0);
        Check.dueThrown("compile", x::compile, Check.ILLEGAL_ARGUMENT);
        Check.due("the text was empty", x.place(), 0);
        Check.due("there is no code still", x.state(), 0);
    }

    private static void writeAppends() {
        Check.sentence("Appends a character to the text");
        ClosureHeap x = new ClosureHeap(100);
        for (int i = 1; i <= 4; i++) {
            Check.due("write", x.write((char) ('0' + i)), true);
        }
        Check.due("instructions", x.compile(), 2);
        Check.due("the number", x.code(0, 1), 1234);
        Check.due("the code doesn't change by it", x.write('9'), true);
        Check.due("the number", x.code(0, 1), 1234);
        Check.due("run", x.run(2), 2);
        Check.due("write when DONE", x.write('8'), true);
        Check.due("instructions", x.compile(), 2);
        Check.due("the number", x.code(0, 1), 98);
    }

    private static void writeRefused() {
        Check.sentence("false if its code isn't 32 .. 126, or 90 are there");
        ClosureHeap x = new ClosureHeap(100);
        for (int i = 0; i < 90; i++) {
            Check.due("31", x.write((char) 31), false);
            Check.due("character " + i, x.write(i < 88 ? ' ' : (char) ('0' + i - 80)), true);
            Check.due("127", x.write((char) 127), false);
        }
        Check.due("90 are there", x.write('7'), false);
        Check.due("90 are there", x.write(' '), false);
        Check.due("instructions", x.compile(), 2);
        Check.due("the number", x.code(0, 1), 89);
        for (int i = 0; i < 90; i++) {
            Check.due("90 have room again", x.write('('), true);
        }
        Check.due("no more", x.write(')'), false);
        ClosureHeap y = new ClosureHeap(100);
        Check.type(y, Check.repeated("1", 90));
        for (int code = 0; code < 300; code++) {
            Check.due("90 are there", y.write((char) code), false);
        }
    }

    private static void compileTakesTheText() {
        Check.sentence("Takes the text (it is empty then, in any case)");
        ClosureHeap x = new ClosureHeap(100);
        for (String text : new String[] {"12", "1+", "q", "((((((1", Check.repeated("1+", 44) + "1", "", "   "}) {
            Check.type(x, text);
            Check.thrown(x::compile);
            Check.dueThrown("nothing is left of " + text, x::compile, Check.ILLEGAL_ARGUMENT);
            Check.due("its place", x.place(), 0);
            Check.type(x, text);
            Check.thrown(x::compile);
            Check.type(x, "7");
            Check.dueThrown("the text is new behind " + text, x::compile, 0);
            Check.due("the number", x.code(0, 1), 7);
        }
    }

    private static void compileInPlaceOfTheOneBefore() {
        Check.sentence("makes its code, in place of the one before");
        ClosureHeap x = Check.compiled(100, "B(1)+" + Check.repeated("1+", 38) + "1");
        Check.due("120 instructions", x.code(119, 0), 0);
        Check.recompile(x, "4");
        Check.due("code", Check.codeOf(x), "NUMBER:4 HALT");
        for (int k = 2; k < 120; k++) {
            Check.due("instruction " + k, x.code(k, 0), NONE);
        }
        Check.recompile(x, "?B(1){Bx:x;}");
        Check.due("code", Check.codeOf(x), "NUMBER:1 MAKE:1 SWITCH:1 CASE:1:4 OPEN:1 ACCESS UNBIND:1 JUMP:8 HALT");
    }

    private static void compileCounts() {
        Check.sentence("how many instructions");
        for (int terms = 1; terms <= 40; terms++) {
            ClosureHeap x = new ClosureHeap(100);
            Check.type(x, "1" + Check.repeated("+1", terms - 1));
            int[] count = {0};
            int due = 3 * terms - 1;
            Check.dueThrown(due + " instructions", () -> count[0] = x.compile(), 0);
            Check.due("instructions", count[0], due);
            Check.due("HALT", x.code(due - 1, 0), 0);
            Check.due("none behind", x.code(due, 0), NONE);
        }
    }

    private static final String[] BEFORE = {
        "1", "B(1)", "a=B(1);1+a", "@fx=f x;f 0", "@fx=f(x+1);f 0", "@fx=C(x,f(x+1));f 0", "D(1,2,3)(1)", "\\x x",
        "(\\x x)1+(\\x x)2+(\\x x)3+(\\x x)4+(\\x x)5"
    };

    private static void compileBeginsAnew() {
        Check.sentence("The machine begins anew, with an empty heap");
        for (String before : BEFORE) {
            for (int steps = 0; steps < 40; steps += 3) {
                ClosureHeap x = Check.after(steps, 24, before);
                Check.recompile(x, "a=C(5,6);a");
                Check.due("as a new object, after " + before, Snapshot.all(x), Snapshot.all(Check.compiled(24, "a=C(5,6);a")));
                Check.due("run", x.run(500), 8);
                Check.due("as with a new object, after " + before, Snapshot.all(x), Snapshot.all(Check.ended(24, "a=C(5,6);a")));
            }
        }
    }

    private static void compileIll() {
        Check.sentence("IllegalArgumentException: it is ILL (all stays as it was)");
        String[] ills = {"", "1+", "x", "((((((1", "@ff=1;2", "?1{A:1;A:2;}", Check.repeated("1+", 41) + "1", "a=7;a=8;a)"};
        int[] places = {0, 2, 0, 6, 2, 7, 83, 9};
        for (String before : BEFORE) {
            for (int steps = 0; steps < 60; steps += 7) {
                String held = Snapshot.all(Check.after(steps, 24, before));
                for (int i = 0; i < ills.length; i++) {
                    ClosureHeap x = Check.after(steps, 24, before);
                    Check.type(x, ills[i]);
                    Check.dueThrown("compile of " + ills[i], x::compile, Check.ILLEGAL_ARGUMENT);
                    Check.due("place of " + ills[i], x.place(), places[i]);
                    Check.due("all stays behind " + ills[i], Snapshot.all(x).replace("place " + places[i], "place -1"), held);
                    ClosureHeap y = Check.after(steps, 24, before);
                    Check.due("it goes on as it would", Check.thrown(() -> x.run(5)), Check.thrown(() -> y.run(5)));
                    Check.due("it goes on as it would", Snapshot.words(x) + Snapshot.heap(x), Snapshot.words(y) + Snapshot.heap(y));
                }
            }
        }
        ClosureHeap none = new ClosureHeap(100);
        Check.type(none, "1)");
        Check.dueThrown("ill", none::compile, Check.ILLEGAL_ARGUMENT);
        Check.due("there is no code", none.state(), 0);
        Check.due("there is no code", none.code(0, 0), NONE);
    }

    private static void placeOfTheLatest() {
        Check.sentence("The place at which the text of the latest compile was ILL; NONE if it wasn't, or there was none");
        ClosureHeap x = new ClosureHeap(100);
        Check.due("there was none", x.place(), NONE);
        Check.type(x, "1+1)");
        Check.due("there was none", x.place(), NONE);
        Check.thrown(x::compile);
        Check.due("ill", x.place(), 3);
        Check.due("asked again", x.place(), 3);
        Check.type(x, "12");
        Check.due("a text alone", x.place(), 3);
        Check.dueThrown("well", x::compile, 0);
        Check.due("it wasn't", x.place(), NONE);
        Check.dueThrown("run", () -> x.run(9), 0);
        Check.due("it wasn't", x.place(), NONE);
        Check.thrown(x::compile);
        Check.due("ill at 0", x.place(), 0);
        Check.type(x, Check.repeated("1+", 45));
        Check.thrown(x::compile);
        Check.due("ill at 90", x.place(), 90);
        Check.type(x, "1+1+1+1");
        Check.dueThrown("well", x::compile, 0);
        Check.due("it wasn't", x.place(), NONE);
    }

    private static void codeOfNone() {
        Check.sentence("Of an instruction: what 0 its kind, 1 a, 2 b; NONE if there is none");
        ClosureHeap none = new ClosureHeap(100);
        ClosureHeap x = Check.compiled(100, "?A{E:1;}");
        ClosureHeap most = Check.compiled(100, "B(1)+" + Check.repeated("1+", 38) + "1");
        for (int what = 0; what < 3; what++) {
            Check.due("no code", none.code(0, what), NONE);
            Check.due("CASE", x.code(2, what), what == 0 ? 19 : what == 1 ? 4 : 3);
            Check.due("the last one", x.code(5, what), 0);
            Check.due("behind the last one", x.code(6, what), NONE);
            Check.due("the last of 120", most.code(119, what), 0);
            Check.due("behind the last of 120", most.code(120, what), NONE);
            Check.due("far behind", x.code(119, what), NONE);
        }
        for (int what : new int[] {3, 4, 5, 100}) {
            Check.due("what " + what, x.code(2, what), NONE);
            Check.due("what " + what, x.code(0, what), NONE);
            Check.due("what " + what + " of the last", most.code(119, what), NONE);
        }
        for (int any : ANY) {
            for (int other = -1; other < 4; other++) {
                Check.due("k " + any, x.code(any, other), NONE);
                Check.due("what " + any, x.code(other, any), NONE);
                Check.due("k " + any + ", no code", none.code(any, other), NONE);
            }
            // places that would lead to an instruction if they were multiplied by its three numbers
            Check.due("k " + (any | 1 << 30), x.code(any | 1 << 30, 0), NONE);
        }
        Check.due("k that wraps around", x.code(1431655766, 0), NONE);
    }

    private static void runUpToN() {
        Check.sentence("Does up to n instructions: how many");
        String text = "@fx=?x<1{E:0;A:f(x-1);};f(15)+f(15)+f(15)";
        int all = 3 * (15 * 14 + 8 + 4) + 9;
        for (int n : new int[] {7, 100, 499, 500}) {
            ClosureHeap x = Check.compiled(200, text);
            int left = all;
            while (left > 0) {
                Check.due("run(0)", x.run(0), 0);
                Check.due("run(" + n + ") with " + left + " left", x.run(n), Math.min(n, left));
                left -= Math.min(n, left);
                Check.due("state with " + left + " left", x.state(), left > 0 ? 1 : 2);
            }
        }
        ClosureHeap x = Check.compiled(100, "1+2");
        String before = Snapshot.all(x);
        Check.due("run(0)", x.run(0), 0);
        Check.due("run(0) changes nothing", Snapshot.all(x), before);
        Check.due("all but HALT", x.run(4), 4);
        Check.due("HALT alone", x.run(500), 1);
        Check.due("exactly all", Check.compiled(100, "1+2").run(5), 5);
        Check.due("one more", Check.compiled(100, "1+2").run(6), 5);
    }

    private static void runWhatStopsIsNotCounted() {
        Check.sentence("That which stops the machine isn't counted");
        ClosureHeap x = Check.compiled(100, "1+A");
        Check.due("all before it", x.run(3), 3);
        Check.due("state", x.state(), 1);
        Check.due("why", x.why(), 0);
        Check.due("run(0) doesn't try it", x.run(0), 0);
        Check.due("state", x.state(), 1);
        Check.dueThrown("it is tried", () -> x.run(1), Check.UNSUPPORTED);
        Check.due("state", x.state(), 3);
        Check.due("next", x.next(), 3);
    }

    private static void runWrongN() {
        Check.sentence("IllegalArgumentException: n isn't 0 .. 500");
        ClosureHeap none = new ClosureHeap(100);
        ClosureHeap going = Check.compiled(100, "1+2");
        ClosureHeap done = Check.ended(100, "1+2");
        ClosureHeap stopped = Check.ended(100, "1+A");
        for (ClosureHeap x : new ClosureHeap[] {none, going, done, stopped}) {
            String before = Snapshot.all(x);
            for (int n : new int[] {-1, 501, 502, 1000, 65536, -500, Integer.MIN_VALUE, Integer.MAX_VALUE}) {
                Check.dueThrown("run(" + n + ")", () -> x.run(n), Check.ILLEGAL_ARGUMENT);
            }
            Check.due("nothing changes", Snapshot.all(x), before);
        }
        Check.due("run(0)", going.run(0), 0);
        Check.due("run(500)", going.run(500), 5);
    }

    private static void runIllegalState() {
        Check.sentence("IllegalStateException: there is no code, the machine is DONE or stopped");
        ClosureHeap none = new ClosureHeap(100);
        ClosureHeap text = new ClosureHeap(100);
        Check.type(text, "1");
        ClosureHeap ill = new ClosureHeap(100);
        Check.type(ill, "1)");
        Check.thrown(ill::compile);
        ClosureHeap done = Check.ended(100, "1+2");
        ClosureHeap wrong = Check.ended(100, "1+A");
        ClosureHeap full = Check.ended(20, "@fx=f x;f 0");
        ClosureHeap deep = Check.ended(200, "@fx=f x;f 0");
        Check.due("they stopped", wrong.why() * 100 + full.why() * 10 + deep.why(), 123);
        for (ClosureHeap x : new ClosureHeap[] {none, text, ill, done, wrong, full, deep}) {
            String before = Snapshot.all(x);
            for (int n : new int[] {0, 1, 2, 499, 500}) {
                Check.dueThrown("run(" + n + ")", () -> x.run(n), Check.ILLEGAL_STATE);
            }
            Check.due("nothing changes", Snapshot.all(x), before);
        }
    }

    private static void runStops() {
        Check.sentence("UnsupportedOperationException: it stops");
        for (int n : new int[] {4, 5, 100, 500}) {
            ClosureHeap x = Check.compiled(100, "1+A");
            Check.dueThrown("WRONG, run(" + n + ")", () -> x.run(n), Check.UNSUPPORTED);
            Check.due("next", x.next(), 3);
            Check.due("what was done before stays", x.depth(), 1);
            Check.due("what was done before stays", x.kind(0), 2);
        }
        ClosureHeap full = Check.compiled(20, "@fx=f x;f 0");
        Check.dueThrown("FULL", () -> full.run(500), Check.UNSUPPORTED);
        ClosureHeap deep = Check.compiled(200, "@fx=f x;f 0");
        Check.dueThrown("DEEP", () -> deep.run(500), Check.UNSUPPORTED);
        ClosureHeap first = Check.compiled(100, "?1{A:1;}");
        Check.due("NUMBER", first.run(1), 1);
        Check.dueThrown("at the first instruction of a run", () -> first.run(500), Check.UNSUPPORTED);
    }

    private static void states() {
        Check.sentence("0 the machine has no code, 1 it can go on, 2 it is DONE, 3 it stopped");
        ClosureHeap x = new ClosureHeap(100);
        Check.due("no code", x.state(), 0);
        Check.type(x, "1)");
        Check.thrown(x::compile);
        Check.due("no code by an ill text", x.state(), 0);
        Check.recompile(x, "1");
        Check.due("code", x.state(), 1);
        x.run(1);
        Check.due("before HALT", x.state(), 1);
        x.run(1);
        Check.due("DONE", x.state(), 2);
        Check.thrown(x::compile);
        Check.due("DONE still, behind an ill text", x.state(), 2);
        Check.recompile(x, "1 A");
        Check.due("it can go on", x.state(), 1);
        Check.thrown(() -> x.run(500));
        Check.due("stopped", x.state(), 3);
        Check.thrown(x::compile);
        Check.due("stopped still, behind an ill text", x.state(), 3);
        Check.recompile(x, "1");
        Check.due("it can go on", x.state(), 1);
    }

    private static void reasons() {
        Check.sentence("Why it stopped: 1 WRONG, 2 FULL, 3 DEEP; 0 if it hasn't");
        Check.due("no code", new ClosureHeap(100).why(), 0);
        ClosureHeap x = Check.compiled(100, "1+A");
        for (int i = 0; i < 3; i++) {
            Check.due("it can go on", x.why(), 0);
            x.run(1);
        }
        Check.due("the next one will stop it", x.why(), 0);
        Check.thrown(() -> x.run(1));
        Check.due("WRONG", x.why(), 1);
        Check.due("DONE", Check.ended(100, "1+1").why(), 0);
        Check.due("FULL", Check.ended(20, "@fx=f x;f 0").why(), 2);
        Check.due("DEEP", Check.ended(200, "@fx=f x;f 0").why(), 3);
        Check.recompile(x, "1");
        Check.due("it hasn't any more", x.why(), 0);
    }

    private static void nextPlaces() {
        Check.sentence("The place of the next instruction; of HALT when it is DONE, of the one that stopped it");
        Check.due("no code", new ClosureHeap(100).next(), 0);
        Check.due("HALT", Check.ended(100, "1+2").next(), 4);
        Check.due("HALT, the last of 120", Check.ended(100, "(?A{A:1;})" + Check.repeated("+1", 38)).next(), 119);
        Check.due("HALT behind a function", Check.ended(100, "\\x x").next(), 4);
        Check.due("HALT behind cases", Check.ended(100, "?A{A:1;E:2;}").next(), 8);
        Check.due("WRONG", Check.ended(100, "1+A").next(), 3);
        Check.due("FULL", Check.ended(20, Check.repeated("a=1;", 7) + "1").next(), 13);
        Check.due("DEEP", Check.ended(200, "@fx=f x;f 0").next(), 3);
    }

    private static void depths() {
        Check.sentence("How many words are on the stack");
        Check.due("no code", new ClosureHeap(100).depth(), 0);
        ClosureHeap x = Check.compiled(200, "@fx=f x;f 0");
        int greatest = 0;
        while (x.state() == 1) {
            Check.thrown(() -> x.run(1));
            greatest = Math.max(greatest, x.depth());
        }
        Check.due("40 at most", greatest, 40);
        Check.due("40 still", x.depth(), 40);
        Check.recompile(x, "1");
        Check.due("anew", x.depth(), 0);
        for (String text : new String[] {"1", "1+1", "D(1,2,3)", "(\\x x)1", "@fx=x;f 1", "?D(1,2,3){Dxyz:x;}"}) {
            Check.due("when " + text + " is DONE", Check.ended(100, text).depth(), 0);
        }
    }

    private static void usedWords() {
        Check.sentence("How many words of the half in use are taken by blocks");
        Check.due("no code", new ClosureHeap(100).used(), 0);
        Check.due("no block", Check.ended(100, "1+1").used(), 0);
        for (int words : new int[] {20, 21, 100, 199, 200}) {
            Check.due("all of " + words, Check.ended(words, filling(words)).used(), words);
        }
        ClosureHeap x = Check.ended(100, filling(100));
        Check.recompile(x, "1");
        Check.due("anew", x.used(), 0);
    }

    private static void liveWords() {
        Check.sentence("How many of them can be reached, as in a collection");
        Check.due("no code", new ClosureHeap(100).live(), 0);
        ClosureHeap all = Check.ended(200, filling(200));
        Check.due("all", all.live(), 200);
        ClosureHeap none = Check.ended(100, "a=D(1,2,3);b=\\x a;@fx=b;1");
        Check.due("used", none.used(), 19);
        Check.due("none", none.live(), 0);
        // what is used behind an instruction that collects is what was live before it, and what is new
        String text = "@fx=?x<1{E:A;A:C(x,f(x-1));};a=f 1;a=f 1;a=f 1;1";
        int seen = 0;
        for (int i = Check.lengthOfRun(30, text); i >= 0; i--) {
            ClosureHeap x = Check.after(i, 30, text);
            int live = x.live();
            int used = x.used();
            int collections = x.collections();
            int made = x.code(x.next(), 0) == Check.kindOf("APPLY") ? 6 : 3;
            Check.thrown(() -> x.run(1));
            if (x.collections() > collections) {
                Check.due("it is collected once", x.collections(), collections + 1);
                Check.due("used behind a collection", x.used(), live + (x.state() == 3 ? 0 : made));
                seen++;
            } else {
                Check.due("used doesn't become less", x.used() >= used, true);
            }
        }
        Check.due("there were collections", seen > 1, true);
    }

    private static void collectionsSinceTheCode() {
        Check.sentence("How often the heap was collected since the code was made");
        Check.due("no code", new ClosureHeap(100).collections(), 0);
        Check.due("none", Check.ended(100, "a=1;a").collections(), 0);
        ClosureHeap x = Check.ended(20, "a=(\\x x)1;a=(\\x x)1;a=(\\x x)1;a=(\\x x)1;a");
        Check.due("state", x.state(), 2);
        int often = x.collections();
        Check.due("at the third CLOSURE and the fourth APPLY", often, 2);
        Check.thrown(x::compile);
        Check.due("an ill text makes no code", x.collections(), often);
        Check.recompile(x, "1");
        Check.due("anew", x.collections(), 0);
        Check.due("one that makes no room", Check.ended(20, Check.repeated("a=1;", 7) + "1").collections(), 1);
        x.live();
        Check.due("live isn't one", x.collections(), 0);
    }

    private static void kindOfNone() {
        Check.sentence("What the word at the end of a path is: 1 an INT, 2 a TAG or constructor's block, 3 a CLOSURE or SELF; 0 if "
            + "there is none");
        String[] texts = {"0", "1", "A", "E", "1<2", "B(1)", "C(1,2)", "D(1,2,3)", "\\x x", "@fx=x;f"};
        int[] kinds = {1, 1, 2, 2, 2, 2, 2, 2, 3, 3};
        int[] fields = {0, 0, 0, 0, 0, 1, 2, 3, 0, 0};
        for (int i = 0; i < texts.length; i++) {
            ClosureHeap x = Check.ended(100, texts[i]);
            Check.due("kind(0) of " + texts[i], x.kind(0), kinds[i]);
            for (int step = 1; step <= 3; step++) {
                Check.due("kind(" + step + ") of " + texts[i], x.kind(step), step <= fields[i] ? 1 : 0);
                Check.due("value(" + step + ") of " + texts[i], x.value(step), step <= fields[i] ? step : 0);
                for (int next = 1; next <= 3; next++) {
                    Check.due("kind beyond a field of " + texts[i], x.kind(step + 4 * next), 0);
                    Check.due("value beyond a field of " + texts[i], x.value(step + 4 * next), 0);
                }
            }
        }
        ClosureHeap none = new ClosureHeap(100);
        for (int any : ANY) {
            boolean ends = (any & 3) == 0;
            Check.due("no code, kind(" + any + ")", none.kind(any), ends ? 1 : 0);
            Check.due("no code, value(" + any + ")", none.value(any), 0);
        }
    }

    private static void pathSteps() {
        Check.sentence("the lowest two bits of path are the first step; then the next two, and so on");
        ClosureHeap x = Check.ended(100, "C(D(1,2,3),C(4,D(5,6,B(7))))");
        Check.due("1, 1", x.value(1 + 4), 1);
        Check.due("1, 2", x.value(1 + 8), 2);
        Check.due("1, 3", x.value(1 + 12), 3);
        Check.due("2, 1", x.value(2 + 4), 4);
        Check.due("2, 2, 1", x.value(2 + 8 + 16), 5);
        Check.due("2, 2, 2", x.value(2 + 8 + 32), 6);
        Check.due("2, 2, 3", x.value(2 + 8 + 48), 1);
        Check.due("2, 2, 3, 1", x.value(2 + 8 + 48 + 64), 7);
        // 16 steps, the highest two bits the last one
        ClosureHeap y = Check.ended(200, "@fx=D(1,2,x);x=f(f(f(f 5)));x=f(f(f(f x)));x=f(f(f(f x)));f(f(f(f x)))");
        Check.due("16 times 3", y.kind(-1) * 10 + y.value(-1), 15);
        Check.due("15 times 3, and 1", y.kind(-1 ^ 1 << 31) * 10 + y.value(-1 ^ 1 << 31), 11);
        Check.due("15 times 3, and 2", y.kind(-1 ^ 1 << 30) * 10 + y.value(-1 ^ 1 << 30), 12);
        Check.due("15 times 3", y.kind(-1 >>> 2) * 10 + y.value(-1 >>> 2), 23);
    }

    private static void pathEnds() {
        Check.sentence("0 the end");
        ClosureHeap x = Check.ended(100, "C(8,B(9))");
        for (int rest : new int[] {4, 8, 12, 0x7ffffffc, Integer.MIN_VALUE, -4}) {
            Check.due("the end at once", x.kind(rest) * 10 + x.value(rest), 22);
            Check.due("the end behind a step", x.kind(rest << 2 | 1) * 10 + x.value(rest << 2 | 1), 18);
            Check.due("the end behind two", x.kind(rest << 4 | 6) * 10 + x.value(rest << 4 | 6), 19);
        }
    }

    private static void valueOfAll() {
        Check.sentence("That INT's number, or the tag; of a CLOSURE or SELF the place of its code; 0 if there is none");
        Check.due("the least INT", Check.ended(100, "1024*1024*1024").value(0), -(1 << 30));
        Check.due("the greatest INT", Check.ended(100, "1024*1024*1024-1").value(0), (1 << 30) - 1);
        Check.due("-1", Check.ended(100, "0-1").value(0), -1);
        Check.due("tag 0", Check.ended(100, "A").value(0), 0);
        Check.due("tag 4", Check.ended(100, "E").value(0), 4);
        Check.due("tag 1, of a block", Check.ended(100, "B(9)").value(0), 1);
        Check.due("tag 7, of a block", Check.ended(100, "H(9,9,9)").value(0), 7);
        Check.due("a CLOSURE at once", Check.ended(100, "\\x 1").value(0), 2);
        Check.due("a CLOSURE behind others", Check.ended(100, "a=(\\x 1)0;\\y 1").value(0), 10);
        Check.due("a late CLOSURE", Check.ended(100, Check.repeated("a=1;", 19) + "\\x 1").value(0), 40);
        Check.due("a SELF", Check.ended(100, "a=1;@fx=1;f").value(0), 4);
        Check.due("none", Check.ended(100, "B(9)").value(2), 0);
        Check.due("a field that is a function", Check.ended(100, "B(\\x 1)").value(1), 2);
        Check.due("nothing behind a function", Check.ended(100, "B(\\x 1)").value(1 + 4), 0);
    }
}
