/** Compares compile and place with the model of the text: of all short texts, and of many that are spoiled. */
public final class TextModelTest {
    private static final String FEW = "\\x=;@y1A B(),?{:}+<";
    private static final String LIKELY = "abxyf\\@=;?{}:ABCDEFGH(),+-*<~01 ";
    /** A text of these has many instructions for its length. */
    private static final String DENSE = "xxxxx11AE+*(\\x)";
    private static final int ALL_UP_TO = 4;
    private static final int PROGRAMS = 4000;
    private static final int SPOILED = 25;

    private static int well = 0;
    private static int ill = 0;
    private static int tooMany = 0;

    public static void main(String[] args) {
        allShort("");
        Programs programs = new Programs(20261116);
        for (int i = 0; i < PROGRAMS; i++) {
            String text = programs.next().text;
            compare(text);
            for (int k = 0; k < SPOILED; k++) {
                compare(spoiled(text, programs));
            }
            compare(twoHalves(text, programs.next().text, programs));
        }
        for (int i = 0; i < PROGRAMS; i++) {
            grown("", LIKELY, programs);
            grown("\\x", DENSE, programs);
        }
        Check.due("many are well", well > 10000, true);
        Check.due("many are ill", ill > 10000, true);
        Check.due("some have too many instructions", tooMany > 100, true);
        Check.finish();
    }

    private static void allShort(String beginning) {
        compare(beginning);
        for (int i = 0; i < FEW.length() && beginning.length() < ALL_UP_TO; i++) {
            allShort(beginning + FEW.charAt(i));
        }
    }

    private static void compare(String text) {
        ClosureHeap x = new ClosureHeap(100);
        for (int i = 0; i < text.length(); i++) {
            x.write(text.charAt(i));
        }
        TextModel model = new TextModel(text);
        boolean isIll = model.place != ClosureHeap.NONE;
        int[] got = {-1};
        int thrown = Check.thrown(() -> got[0] = x.compile());
        Check.due("the exception of " + text, thrown, isIll ? Check.ILLEGAL_ARGUMENT : 0);
        Check.due("the place of " + text, x.place(), model.place);
        if (!isIll) {
            Check.due("the instructions of " + text, got[0], model.instructions);
        }
        well += isIll ? 0 : 1;
        ill += isIll ? 1 : 0;
        tooMany += model.tooMany ? 1 : 0;
    }

    private static char oneOf(String characters, Programs random) {
        return characters.charAt(random.random(characters.length()));
    }

    /** One to three characters are put in, left out, changed, or stand elsewhere. */
    private static String spoiled(String text, Programs random) {
        StringBuilder row = new StringBuilder(text);
        for (int times = 1 + random.random(3); times > 0 && row.length() > 0; times--) {
            int at = random.random(row.length());
            switch (random.random(4)) {
                case 0 -> row.insert(at, oneOf(LIKELY, random));
                case 1 -> row.deleteCharAt(at);
                case 2 -> row.setCharAt(at, oneOf(LIKELY, random));
                default -> {
                    char c = row.charAt(at);
                    row.setCharAt(at, row.charAt(random.random(row.length())));
                    row.setCharAt(random.random(row.length()), c);
                }
            }
        }
        row.setLength(Math.min(90, row.length()));
        return row.toString();
    }

    private static String twoHalves(String one, String other, Programs random) {
        String text = one.substring(0, random.random(one.length() + 1)) + other.substring(random.random(other.length()));
        return text.substring(0, Math.min(90, text.length()));
    }

    /** Characters are tried until one can stand, so that the text grows to a length that chance alone doesn't reach. */
    private static void grown(String beginning, String characters, Programs random) {
        StringBuilder row = new StringBuilder(beginning);
        int most = 1 + random.random(90);
        for (int tries = 0; tries < 400 && row.length() < most; tries++) {
            row.append(oneOf(characters, random));
            if (!mayGrow(row.toString().replace(" ", ""))) {
                row.setLength(row.length() - 1);
            }
        }
        compare(row.toString());
    }

    /** A name that isn't bound may get a = yet. */
    private static boolean mayGrow(String text) {
        int place = new TextModel(text).place;
        int last = text.length() - 1;
        return place == ClosureHeap.NONE || place > last || place == last && Character.isLowerCase(text.charAt(last));
    }
}
