import java.util.ArrayDeque;
import java.util.ArrayList;
import java.util.Deque;
import java.util.List;

/**
 * Takes a text one character after the other, with a stack of what is due next, and tells the first
 * character that can't stand and how many instructions a text that is well has. It makes no tree and
 * no code, and knows the document's grammar as a table of what may follow.
 */
final class TextModel {
    private static final int TAKEN = 0;
    private static final int REFUSED = 1;
    /** The goal was left out or became others: the character is for the next one. */
    private static final int AGAIN = 2;

    /** What may be due; those with a small letter may also be left out. */
    private enum Due {
        EXPRESSION, BEHIND_HEAD, COMPARISON, SUM, PRODUCT, APPLICATION, SIGN, NAME_TO_BIND, NAME_OF_SELF,
        OTHER_NAME, CASE, NAME_OF_CASE, CASE_OR_END, more_digits, more_atoms, more_products, more_sums,
        one_comparison, bind, end_of_names
    }

    /** The number is a depth, a sign, how many digits or names, or a set of tags. */
    private record Goal(Due due, int depth, int number) {
    }

    private final String text;
    private final Deque<Goal> goals = new ArrayDeque<>();
    private final List<Character> names = new ArrayList<>();
    private int at = 0;
    int instructions = 1;
    private char nameOfSelf = 0;

    /** Where the text is ill, NONE if it isn't. */
    final int place;
    /** It is ill by the number of its instructions alone. */
    final boolean tooMany;

    TextModel(String text) {
        this.text = text.replace(" ", "");
        due(Due.EXPRESSION, 0, 0);
        while (at < this.text.length() && take(this.text.charAt(at))) {
            at++;
        }
        boolean whole = at == this.text.length() && goals.stream().allMatch(goal -> mayBeLeftOut(goal.due));
        tooMany = whole && instructions > 120;
        place = whole && !tooMany ? ClosureHeap.NONE : at;
    }

    private static boolean mayBeLeftOut(Due due) {
        return Character.isLowerCase(due.name().charAt(0));
    }

    private void due(Due due, int depth, int number) {
        goals.push(new Goal(due, depth, number));
    }

    private void sign(char c) {
        due(Due.SIGN, 0, c);
    }

    /** Takes goals from the stack until one takes the character; false if none may. */
    private boolean take(char c) {
        while (!goals.isEmpty()) {
            Goal goal = goals.pop();
            int outcome = mayBeLeftOut(goal.due) ? takeIfFit(goal, c) : takeNeeded(goal, c);
            if (outcome != AGAIN) {
                return outcome == TAKEN;
            }
        }
        return false;
    }

    private static int taken(boolean fits) {
        return fits ? TAKEN : REFUSED;
    }

    private int takeNeeded(Goal goal, char c) {
        int depth = goal.depth;
        switch (goal.due) {
            case EXPRESSION:
                due(Due.end_of_names, 0, names.size());
                due(Due.BEHIND_HEAD, depth, 0);
                return depth > 5 ? REFUSED : AGAIN;
            case BEHIND_HEAD:
                return headOrBody(c, depth);
            case COMPARISON:
                due(Due.one_comparison, depth, 0);
                due(Due.SUM, depth, 0);
                return AGAIN;
            case SUM:
                due(Due.more_sums, depth, 0);
                due(Due.PRODUCT, depth, 0);
                return AGAIN;
            case PRODUCT:
                due(Due.more_products, depth, 0);
                due(Due.APPLICATION, depth, 0);
                return AGAIN;
            case APPLICATION:
                due(Due.more_atoms, depth, 0);
                return taken(takesAtom(c, depth));
            case SIGN:
                return taken(c == goal.number);
            case NAME_TO_BIND:
                names.add(c);
                return taken(isName(c));
            case NAME_OF_SELF:
                names.add(c);
                nameOfSelf = c;
                return taken(isName(c));
            case OTHER_NAME:
                names.add(c);
                return taken(isName(c) && c != nameOfSelf);
            case CASE_OR_END:
                if (c == '}') {
                    return TAKEN;
                }
                due(Due.CASE, depth, goal.number);
                return AGAIN;
            case CASE:
                return taken(takesCase(c, depth, goal.number));
            default:
                // NAME_OF_CASE: those of this case are the latest ones.
                boolean twice = names.subList(names.size() - goal.number, names.size()).contains(c);
                names.add(c);
                return taken(isName(c) && !twice);
        }
    }

    private int takeIfFit(Goal goal, char c) {
        int depth = goal.depth;
        switch (goal.due) {
            case more_digits:
                if (!Character.isDigit(c)) {
                    return AGAIN;
                }
                if (goal.number > 1) {
                    due(Due.more_digits, 0, goal.number - 1);
                }
                return TAKEN;
            case more_atoms:
                if (Character.isDigit(c) || isName(c) || isConstructor(c) || c == '(') {
                    instructions += 2;
                    due(Due.more_atoms, depth, 0);
                    return taken(takesAtom(c, depth));
                }
                return AGAIN;
            case more_products:
                return operation(c, "*", goal, true, Due.APPLICATION);
            case more_sums:
                return operation(c, "+-", goal, true, Due.PRODUCT);
            case one_comparison:
                return operation(c, "<~", goal, false, Due.SUM);
            case bind:
                names.add((char) goal.number);
                return AGAIN;
            default:
                names.subList(goal.number, names.size()).clear();
                return AGAIN;
        }
    }

    private int operation(char c, String signs, Goal goal, boolean again, Due part) {
        if (signs.indexOf(c) < 0) {
            return AGAIN;
        }
        instructions += 2;
        if (again) {
            goals.push(goal);
        }
        due(part, goal.depth, 0);
        return TAKEN;
    }

    private int headOrBody(char c, int depth) {
        if (c == '?') {
            instructions++;
            due(Due.CASE, depth, 0);
            sign('{');
            due(Due.COMPARISON, depth, 0);
            return TAKEN;
        }
        boolean value = isName(c) && at + 1 < text.length() && text.charAt(at + 1) == '=';
        if (c != '\\' && c != '@' && !value) {
            due(Due.COMPARISON, depth, 0);
            return AGAIN;
        }
        due(Due.BEHIND_HEAD, depth, 0);
        if (c == '\\') {
            instructions += 3;
            due(Due.NAME_TO_BIND, 0, 0);
            return TAKEN;
        }
        if (value) {
            instructions += 2;
            due(Due.bind, 0, c);
        } else {
            instructions += 5;
            // Of the two names the first one stays bound.
            due(Due.end_of_names, 0, names.size() + 1);
        }
        sign(';');
        due(Due.EXPRESSION, depth + 1, 0);
        sign('=');
        if (!value) {
            due(Due.OTHER_NAME, 0, 0);
            due(Due.NAME_OF_SELF, 0, 0);
        }
        return TAKEN;
    }

    private boolean takesAtom(char c, int depth) {
        if (Character.isDigit(c)) {
            instructions++;
            due(Due.more_digits, 0, 3);
            return true;
        }
        if (isName(c)) {
            instructions++;
            return names.contains(c);
        }
        if (c == '(') {
            sign(')');
            due(Due.EXPRESSION, depth + 1, 0);
            return true;
        }
        if (!isConstructor(c)) {
            return false;
        }
        int fields = (c - 'A') % 4;
        instructions += Math.max(1, fields);
        for (int i = 0; i < fields; i++) {
            sign(i == 0 ? ')' : ',');
            due(Due.EXPRESSION, depth + 1, 0);
        }
        if (fields > 0) {
            sign('(');
        }
        return true;
    }

    private boolean takesCase(char c, int depth, int seen) {
        int tag = c - 'A';
        if (!isConstructor(c) || (seen >> tag & 1) == 1) {
            return false;
        }
        int fields = tag % 4;
        instructions += fields == 0 ? 2 : 4;
        due(Due.CASE_OR_END, depth, seen | 1 << tag);
        due(Due.end_of_names, 0, names.size());
        sign(';');
        due(Due.EXPRESSION, depth + 1, 0);
        sign(':');
        for (int i = fields - 1; i >= 0; i--) {
            due(Due.NAME_OF_CASE, 0, i);
        }
        return true;
    }

    private static boolean isName(char c) {
        return c >= 'a' && c <= 'z';
    }

    private static boolean isConstructor(char c) {
        return c >= 'A' && c <= 'H';
    }
}
