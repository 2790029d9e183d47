import java.util.List;

/** Compares compile with the code of many made programs, and cuts and spoils their texts. */
public final class CompileModelTest {
    private static final int PROGRAMS = 4000;

    public static void main(String[] args) {
        Programs programs = new Programs(20261115);
        for (int i = 0; i < PROGRAMS; i++) {
            Programs.Program program = programs.next();
            whole(program);
            cutAndSpoiled(program.text, programs);
        }
        Check.finish();
    }

    private static void whole(Programs.Program program) {
        ClosureHeap x = new ClosureHeap(100);
        Check.type(x, program.text);
        if (program.code.size() > 120) {
            Check.dueThrown("compile of " + program.text, x::compile, Check.ILLEGAL_ARGUMENT);
            Check.due("place of " + program.text, x.place(), program.text.length());
            return;
        }
        Check.dueThrown("compile of " + program.text, x::compile, 0);
        Check.due("place of " + program.text, x.place(), ClosureHeap.NONE);
        List<int[]> code = program.code;
        for (int k = 0; k < code.size(); k++) {
            for (int what = 0; what < 3; what++) {
                Check.due("code(" + k + ", " + what + ") of " + program.text, x.code(k, what), code.get(k)[what]);
            }
        }
        Check.due("length of " + program.text, x.code(code.size(), 0), ClosureHeap.NONE);
    }

    private static int placeOf(String text) {
        ClosureHeap x = new ClosureHeap(100);
        for (int i = 0; i < text.length(); i++) {
            x.write(text.charAt(i));
        }
        int thrown = Check.thrown(x::compile);
        Check.due("it is ill if it has a place: " + text, thrown == 0, x.place() == ClosureHeap.NONE);
        return x.place();
    }

    /** Every beginning of a text is well or ends too early, but where a name loses its = . */
    private static void cutAndSpoiled(String text, Programs programs) {
        int cut = programs.random(text.length());
        boolean losesItsSign = cut > 0 && text.charAt(cut) == '=';
        String beginning = text.substring(0, cut);
        int place = placeOf(beginning);
        Check.due("place in " + beginning, place == ClosureHeap.NONE || place == cut || losesItsSign && place == cut - 1, true);
        int spoiled = placeOf(beginning + '!' + text.substring(cut, Math.min(text.length(), 89)));
        Check.due("place of ! behind " + beginning, spoiled == cut || losesItsSign && spoiled == cut - 1, true);
    }
}
