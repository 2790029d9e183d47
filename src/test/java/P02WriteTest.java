/** Promise 2: write. */
public final class P02WriteTest {
    public static void main(String[] args) {
        everyCode();
        atMostNinety();
        blanksAreCharacters();
        Check.finish();
    }

    private static void everyCode() {
        for (int code = 0; code <= 0xffff; code++) {
            ClosureHeap x = new ClosureHeap(50);
            boolean due = code >= 32 && code <= 126;
            if (x.write((char) code) != due) {
                Check.due("write of code " + code, !due, due);
            }
        }
        ClosureHeap x = new ClosureHeap(50);
        Check.type(x, "1");
        Check.due("write of 31", x.write((char) 31), false);
        Check.due("write of 127", x.write((char) 127), false);
        Check.due("write of 256 + 49", x.write((char) (256 + 49)), false);
        Check.type(x, "2");
        Check.due("what was refused isn't in the text", x.compile(), 2);
        Check.due("the number", x.code(0, 1), 12);
    }

    private static void atMostNinety() {
        ClosureHeap x = new ClosureHeap(50);
        Check.type(x, Check.repeated(" ", 40) + "1" + Check.repeated("+(1)", 12) + "*");
        Check.due("character 91", x.write('1'), false);
        Check.due("character 91, a blank", x.write(' '), false);
        Check.dueThrown("the text ends early", x::compile, Check.ILLEGAL_ARGUMENT);
        Check.due("its place, without blanks", x.place(), 50);
        Check.due("the text is empty then", x.write('7'), true);
        Check.due("instructions", x.compile(), 2);
        Check.due("the number", x.code(0, 1), 7);
        ClosureHeap y = new ClosureHeap(50);
        Check.type(y, Check.repeated("(1+1)+", 14) + "1*1+23");
        Check.due("character 91", y.write('4'), false);
        Check.due("instructions of 90 characters", y.compile(), 92);
    }

    private static void blanksAreCharacters() {
        ClosureHeap x = new ClosureHeap(50);
        Check.type(x, Check.repeated(" ", 90));
        Check.due("the 91st, behind blanks alone", x.write('1'), false);
        Check.dueThrown("blanks alone", x::compile, Check.ILLEGAL_ARGUMENT);
        Check.due("place", x.place(), 0);
        Check.due("blanks are left out", Check.codeOf(Check.compiled(50, " 1 2 + 3  ")),
            "NUMBER:12 PUSH NUMBER:3 ADD HALT");
    }
}
