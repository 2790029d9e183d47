import java.util.Arrays;

/**
 * Reads an expression from a text, turns it into code for a machine with an accumulator, an
 * environment and a stack, and runs that code over a small heap that is collected by copying.
 */
public final class ClosureHeap {
    public static final int NONE = -1;

    private static final int MOST_CHARACTERS = 90;
    private static final int MOST_INSTRUCTIONS = 120;
    private static final int MOST_STACKED = 40;
    private static final int MOST_STEPS = 500;
    private static final int DEEPEST = 5;
    private static final int FEWEST_WORDS = 20;
    private static final int MOST_WORDS = 200;

    private static final char BLANK = ' ';
    private static final char LAST_CHARACTER = '~';
    /** No text holds this character, so it can stand for what lies behind the text. */
    private static final char END = 0;

    private static final int TAGS = 8;
    private static final int TAG_OF_TRUE = 4;
    private static final int TAG_OF_FALSE = 0;

    private static final int HALT = 0;
    private static final int NUMBER = 1;
    private static final int ACCESS = 2;
    private static final int PUSH = 3;
    private static final int ADD = 4;
    private static final int SUBTRACT = 5;
    private static final int MULTIPLY = 6;
    private static final int LESS = 7;
    private static final int SAME = 8;
    private static final int CLOSURE = 9;
    private static final int SELF = 10;
    private static final int JUMP = 11;
    private static final int RETURN = 12;
    private static final int APPLY = 13;
    private static final int BIND = 14;
    private static final int UNBIND = 15;
    private static final int TAG = 16;
    private static final int MAKE = 17;
    private static final int SWITCH = 18;
    private static final int CASE = 19;
    private static final int OPEN = 20;
    /** Not an instruction: it only marks a place while a row is being built. */
    private static final int LABEL = 21;

    private static final int CLOSURE_BLOCK = 8;
    private static final int SELF_BLOCK = 9;
    private static final int BINDING_BLOCK = 10;
    /** The header and the two words of a CLOSURE, a SELF or a BINDING. */
    private static final int PAIR_WORDS = 3;

    private static final int INT_ZERO = 1;
    /** Looks like a pointer, but no block lies there. */
    private static final int NO_WORD = -4;

    private static final int NO_CODE = 0;
    private static final int GOING = 1;
    private static final int DONE = 2;
    private static final int STOPPED = 3;

    private static final int WRONG = 1;
    private static final int FULL = 2;
    private static final int DEEP = 3;

    private static final int IS_INT = 1;
    private static final int IS_TAGGED = 2;
    private static final int IS_FUNCTION = 3;

    private final char[] text = new char[MOST_CHARACTERS];
    private int length = 0;
    private final Reader reader = new Reader();
    private final Code program = new Code();
    private final Machine machine;

    public ClosureHeap(int words) {
        int size = Math.max(FEWEST_WORDS, Math.min(MOST_WORDS, words));
        machine = new Machine(program, new Heap(size));
    }

    public boolean write(char c) {
        if (c < BLANK || c > LAST_CHARACTER || length >= MOST_CHARACTERS) {
            return false;
        }
        text[length] = c;
        length++;
        return true;
    }

    public int compile() throws IllegalArgumentException {
        int count = length;
        length = 0;
        Row row = reader.read(text, count);
        if (!program.replaceBy(row)) {
            reader.refuse();
        }
        machine.beginAnew();
        return program.length;
    }

    public int place() {
        return reader.illPlace;
    }

    public int code(int k, int what) {
        return program.part(k, what);
    }

    public int run(int n) throws IllegalArgumentException, IllegalStateException, UnsupportedOperationException {
        if (n < 0 || n > MOST_STEPS) {
            throw new IllegalArgumentException("a run has 0 to 500 instructions");
        }
        if (machine.condition() != GOING) {
            throw new IllegalStateException("the machine can't go on");
        }
        int count = machine.doUpTo(n);
        if (machine.condition() == STOPPED) {
            throw new UnsupportedOperationException("the machine stopped");
        }
        return count;
    }

    public int state() {
        return machine.condition();
    }

    public int why() {
        return machine.reason;
    }

    public int next() {
        return machine.at;
    }

    public int depth() {
        return machine.height;
    }

    public int used() {
        return machine.heap.taken;
    }

    public int live() {
        return machine.copyReachable();
    }

    public int collections() {
        return machine.heap.turns;
    }

    public int kind(int path) {
        return machine.heap.sort(machine.wordAt(path));
    }

    public int value(int path) {
        return machine.heap.meaning(machine.wordAt(path));
    }

    private static int fieldsOf(int tag) {
        return tag & 3;
    }

    /** Wraps around modulo 2 to the 31, as the word has one bit less for its number than an int. */
    private static int wordOfInt(int n) {
        return 2 * n + 1;
    }

    private static int wordOfTag(int tag) {
        return 4 * tag + 2;
    }

    private static boolean isInt(int word) {
        return (word & 1) == 1;
    }

    private static boolean isTag(int word) {
        return (word & 3) == 2;
    }

    private static int intOf(int word) {
        return word >> 1;
    }

    private static int tagOf(int word) {
        return word >> 2;
    }

    /** An instruction of a row whose places aren't known yet. */
    private static final class Step {
        final int kind;
        int a;
        /** The label whose place this instruction tells, if it tells one. */
        final Step target;
        int place = 0;
        Step following = null;

        Step(int kind, int a, Step target) {
            this.kind = kind;
            this.a = a;
            this.target = target;
        }
    }

    /**
     * Instructions in a chain: an application's code comes in another order than its text, and
     * chains can be joined in any order without a change of the places that they tell.
     */
    private static final class Row {
        Step first = null;
        Step last = null;

        void add(Step step) {
            if (last == null) {
                first = step;
            } else {
                last.following = step;
            }
            last = step;
        }

        void add(int kind, int a) {
            add(new Step(kind, a, null));
        }

        void addFirst(Step step) {
            step.following = first;
            first = step;
            if (last == null) {
                last = step;
            }
        }

        /** The other row must not be used any more: its steps belong to this one then. */
        void append(Row other) {
            if (other.first == null) {
                return;
            }
            if (last == null) {
                first = other.first;
            } else {
                last.following = other.first;
            }
            last = other.last;
        }

        void operate(int kind, Row second) {
            add(PUSH, 0);
            append(second);
            add(kind, 0);
        }

        /** Gives every step its place, and answers how many instructions there are. */
        int countPlaces() {
            int count = 0;
            for (Step step = first; step != null; step = step.following) {
                step.place = count;
                if (step.kind != LABEL) {
                    count++;
                }
            }
            return count;
        }
    }

    /** Reads a text by descent through its grammar, and makes its row of instructions. */
    private static final class Reader {
        final char[] text = new char[MOST_CHARACTERS];
        int length = 0;
        int at = 0;
        final char[] names = new char[MOST_CHARACTERS];
        int bound = 0;
        int illPlace = NONE;

        Row read(char[] written, int count) {
            leaveOutBlanks(written, count);
            at = 0;
            bound = 0;
            illPlace = NONE;
            Row row = expression(0);
            if (at < length) {
                refuse();
            }
            row.add(HALT, 0);
            return row;
        }

        void refuse() {
            illPlace = at;
            throw new IllegalArgumentException("the text is ill");
        }

        private void leaveOutBlanks(char[] written, int count) {
            length = 0;
            for (int i = 0; i < count && i < written.length; i++) {
                if (written[i] != BLANK && length < text.length) {
                    text[length] = written[i];
                    length++;
                }
            }
        }

        private Row expression(int depth) {
            if (depth > DEEPEST) {
                refuse();
            }
            int outer = bound;
            Row row = new Row();
            Row ends = new Row();
            for (int heads = 0; heads < length && beginsHead(); heads++) {
                head(row, ends, depth);
            }
            row.append(peek() == '?' ? match(depth) : comparison(depth));
            row.append(ends);
            bound = outer;
            return row;
        }

        private boolean beginsHead() {
            char c = peek();
            return c == '\\' || c == '@' || isName(c) && characterAt(at + 1) == '=';
        }

        /** What a head leaves to be done behind its expression comes in front of ends. */
        private void head(Row row, Row ends, int depth) {
            char c = peek();
            if (c == '\\') {
                function(row, ends);
            } else if (c == '@') {
                boundFunction(row, ends, depth);
            } else {
                boundValue(row, ends, depth);
            }
        }

        private void function(Row row, Row ends) {
            at++;
            bind(takeName());
            Step behind = label();
            openFunction(row, CLOSURE, behind);
            ends.addFirst(behind);
            ends.addFirst(new Step(RETURN, 0, null));
        }

        private void boundFunction(Row row, Row ends, int depth) {
            at++;
            char f = takeName();
            if (peek() == f) {
                refuse();
            }
            char x = takeName();
            expect('=');
            bind(f);
            bind(x);
            Step behind = label();
            openFunction(row, SELF, behind);
            row.append(expression(depth + 1));
            row.add(RETURN, 0);
            row.add(behind);
            expect(';');
            // x ends here, while f goes on in what is behind the head.
            bound--;
            row.add(BIND, 0);
            ends.addFirst(new Step(UNBIND, 1, null));
        }

        private void boundValue(Row row, Row ends, int depth) {
            char x = takeName();
            expect('=');
            row.append(expression(depth + 1));
            expect(';');
            bind(x);
            row.add(BIND, 0);
            ends.addFirst(new Step(UNBIND, 1, null));
        }

        private void openFunction(Row row, int kind, Step behind) {
            Step body = label();
            row.add(new Step(kind, 0, body));
            row.add(new Step(JUMP, 0, behind));
            row.add(body);
        }

        private Row match(int depth) {
            at++;
            Row row = comparison(depth);
            expect('{');
            Step choice = new Step(SWITCH, 0, null);
            row.add(choice);
            Row bodies = new Row();
            Step behind = label();
            int seen = 0;
            int cases = 0;
            while (cases < TAGS && (cases == 0 || peek() != '}')) {
                int tag = takeTagNotIn(seen);
                seen |= 1 << tag;
                cases++;
                Step body = label();
                row.add(new Step(CASE, tag, body));
                bodies.add(body);
                caseBody(bodies, tag, behind, depth);
            }
            expect('}');
            choice.a = cases;
            row.append(bodies);
            row.add(behind);
            return row;
        }

        private void caseBody(Row bodies, int tag, Step behind, int depth) {
            int fields = fieldsOf(tag);
            int outer = bound;
            for (int i = 0; i < fields; i++) {
                int further = furtherOn(peek());
                if (further != NONE && further < bound - outer) {
                    refuse();
                }
                bind(takeName());
            }
            expect(':');
            if (fields > 0) {
                bodies.add(OPEN, fields);
            }
            bodies.append(expression(depth + 1));
            if (fields > 0) {
                bodies.add(UNBIND, fields);
            }
            bodies.add(new Step(JUMP, 0, behind));
            expect(';');
            bound = outer;
        }

        private Row comparison(int depth) {
            Row row = sum(depth);
            char c = peek();
            if (c == '<' || c == '~') {
                at++;
                row.operate(c == '<' ? LESS : SAME, sum(depth));
            }
            return row;
        }

        private Row sum(int depth) {
            Row row = product(depth);
            while (at < length && (peek() == '+' || peek() == '-')) {
                int kind = peek() == '+' ? ADD : SUBTRACT;
                at++;
                row.operate(kind, product(depth));
            }
            return row;
        }

        private Row product(int depth) {
            Row row = application(depth);
            while (at < length && peek() == '*') {
                at++;
                row.operate(MULTIPLY, application(depth));
            }
            return row;
        }

        private Row application(int depth) {
            Row function = atom(depth);
            Row row = new Row();
            int arguments = 0;
            while (arguments < length && beginsAtom(peek())) {
                Row argument = atom(depth);
                argument.add(PUSH, 0);
                argument.append(row);
                row = argument;
                arguments++;
            }
            row.append(function);
            for (int i = 0; i < arguments; i++) {
                row.add(APPLY, 0);
            }
            return row;
        }

        private Row atom(int depth) {
            char c = peek();
            if (isDigit(c)) {
                return numeral();
            }
            if (isName(c)) {
                return access();
            }
            if (isConstructor(c)) {
                return construction(depth);
            }
            expect('(');
            Row row = expression(depth + 1);
            expect(')');
            return row;
        }

        private Row numeral() {
            int number = 0;
            for (int digits = 0; digits < 4 && isDigit(peek()); digits++) {
                number = 10 * number + (peek() - '0');
                at++;
            }
            return rowOf(NUMBER, number);
        }

        private Row access() {
            int further = furtherOn(peek());
            if (further == NONE) {
                refuse();
            }
            at++;
            return rowOf(ACCESS, further);
        }

        private Row construction(int depth) {
            int tag = takeTagNotIn(0);
            int fields = fieldsOf(tag);
            if (fields == 0) {
                return rowOf(TAG, tag);
            }
            Row row = new Row();
            for (int i = 0; i < fields; i++) {
                if (i > 0) {
                    row.add(PUSH, 0);
                }
                expect(i == 0 ? '(' : ',');
                row.append(expression(depth + 1));
            }
            expect(')');
            row.add(MAKE, tag);
            return row;
        }

        private static Row rowOf(int kind, int a) {
            Row row = new Row();
            row.add(kind, a);
            return row;
        }

        private static Step label() {
            return new Step(LABEL, 0, null);
        }

        private char peek() {
            return characterAt(at);
        }

        private char characterAt(int k) {
            return k >= 0 && k < length && k < text.length ? text[k] : END;
        }

        private void expect(char c) {
            if (peek() != c) {
                refuse();
            }
            at++;
        }

        private char takeName() {
            char c = peek();
            if (!isName(c)) {
                refuse();
            }
            at++;
            return c;
        }

        /** The bits of seen are the tags that can't stand here. */
        private int takeTagNotIn(int seen) {
            char c = peek();
            int tag = c - 'A';
            if (!isConstructor(c) || (seen >> tag & 1) == 1) {
                refuse();
            }
            at++;
            return tag;
        }

        private void bind(char name) {
            if (bound < names.length) {
                names[bound] = name;
                bound++;
            }
        }

        /** How many names were bound behind this one, or NONE if it isn't bound. */
        private int furtherOn(char name) {
            for (int i = bound - 1; i >= 0 && i < names.length; i--) {
                if (names[i] == name) {
                    return bound - 1 - i;
                }
            }
            return NONE;
        }

        private static boolean beginsAtom(char c) {
            return isDigit(c) || isName(c) || isConstructor(c) || c == '(';
        }

        private static boolean isDigit(char c) {
            return c >= '0' && c <= '9';
        }

        private static boolean isName(char c) {
            return c >= 'a' && c <= 'z';
        }

        private static boolean isConstructor(char c) {
            return c >= 'A' && c < 'A' + TAGS;
        }
    }

    /** The instructions that the machine does, three numbers each. */
    private static final class Code {
        static final int PARTS = 3;
        final int[] parts = new int[PARTS * MOST_INSTRUCTIONS];
        int length = 0;

        /** False, and nothing is changed, if the row has too many instructions. */
        boolean replaceBy(Row row) {
            int count = row.countPlaces();
            if (count > MOST_INSTRUCTIONS) {
                return false;
            }
            length = count;
            for (Step step = row.first; step != null; step = step.following) {
                if (step.kind != LABEL) {
                    store(step);
                }
            }
            return true;
        }

        private void store(Step step) {
            int k = PARTS * step.place;
            if (k < 0 || k + 2 >= parts.length) {
                return;
            }
            int told = step.target == null ? 0 : step.target.place;
            boolean tellsInB = step.kind == CASE;
            parts[k] = step.kind;
            parts[k + 1] = step.target == null || tellsInB ? step.a : told;
            parts[k + 2] = tellsInB ? told : 0;
        }

        int part(int k, int what) {
            if (k < 0 || k >= length || what < 0 || what >= PARTS) {
                return NONE;
            }
            return parts[PARTS * k + what];
        }
    }

    /** Two halves of words, the blocks in one of them, and what words mean there. */
    private static final class Heap {
        int[] half;
        int[] otherHalf;
        /** Where a block went in the other half, by its place in this one. */
        final int[] movedTo;
        int taken = 0;
        int copied = 0;
        int turns = 0;

        Heap(int words) {
            half = new int[words];
            otherHalf = new int[words];
            movedTo = new int[words];
        }

        void clear() {
            taken = 0;
            turns = 0;
        }

        boolean hasRoomFor(int words) {
            return words <= half.length - taken;
        }

        int beginBlock(int kind, int words) {
            int pointer = 4 * taken;
            put(16 * words + kind);
            return pointer;
        }

        void put(int word) {
            if (taken < half.length) {
                half[taken] = word;
                taken++;
            }
        }

        int putPair(int kind, int firstWord, int secondWord) {
            int pointer = beginBlock(kind, 2);
            put(firstWord);
            put(secondWord);
            return pointer;
        }

        /** The kind in the header that the word points to, NONE if it is no pointer. */
        int blockKind(int word) {
            return isPointer(word) ? half[word >> 2] & 15 : NONE;
        }

        int blockWords(int word) {
            return isPointer(word) ? half[word >> 2] >> 4 : 0;
        }

        /** The first word of a block is its word 1. */
        int wordOf(int pointer, int k) {
            if (!isPointer(pointer) || k < 1 || k > blockWords(pointer)) {
                return NO_WORD;
            }
            int place = (pointer >> 2) + k;
            return place < taken ? half[place] : NO_WORD;
        }

        private boolean isPointer(int word) {
            return (word & 3) == 0 && word >= 0 && word >> 2 < taken;
        }

        boolean isFunction(int word) {
            int kind = blockKind(word);
            return kind == CLOSURE_BLOCK || kind == SELF_BLOCK;
        }

        /** The tag of a TAG or of a constructor's block, NONE of other words. */
        int constructorOf(int word) {
            if (isTag(word)) {
                return tagOf(word);
            }
            int kind = blockKind(word);
            return kind < TAGS ? kind : NONE;
        }

        int sort(int word) {
            if (isInt(word)) {
                return IS_INT;
            }
            if (constructorOf(word) != NONE) {
                return IS_TAGGED;
            }
            return isFunction(word) ? IS_FUNCTION : 0;
        }

        int meaning(int word) {
            switch (sort(word)) {
                case IS_INT:
                    return intOf(word);
                case IS_TAGGED:
                    return constructorOf(word);
                case IS_FUNCTION:
                    return intOf(wordOf(word, 1));
                default:
                    return 0;
            }
        }

        void beginCopy() {
            Arrays.fill(movedTo, NONE);
            copied = 0;
        }

        /** The word as it is in the other half; a block that isn't there yet is copied. */
        int copy(int word) {
            if (!isPointer(word)) {
                return word;
            }
            int place = word >> 2;
            if (movedTo[place] == NONE) {
                int words = 1 + (half[place] >> 4);
                if (words < 1 || place + words > taken || copied + words > otherHalf.length) {
                    return word;
                }
                System.arraycopy(half, place, otherHalf, copied, words);
                movedTo[place] = copied;
                copied += words;
            }
            return 4 * movedTo[place];
        }

        /** Copies what the copied blocks point to, those copied here among them. */
        void copyTheRest() {
            int header = 0;
            while (header < copied && header < otherHalf.length) {
                int behind = header + 1 + Math.max(0, otherHalf[header] >> 4);
                for (int k = header + 1; k < behind && k < otherHalf.length; k++) {
                    otherHalf[k] = copy(otherHalf[k]);
                }
                header = behind;
            }
        }

        void useOtherHalf() {
            int[] old = half;
            half = otherHalf;
            otherHalf = old;
            taken = copied;
            turns++;
        }
    }

    private static final class Machine {
        final Code code;
        final Heap heap;
        final int[] stack = new int[MOST_STACKED];
        int height = 0;
        int accumulator = INT_ZERO;
        int environment = INT_ZERO;
        int at = 0;
        boolean halted = false;
        int reason = 0;

        Machine(Code code, Heap heap) {
            this.code = code;
            this.heap = heap;
        }

        void beginAnew() {
            heap.clear();
            height = 0;
            accumulator = INT_ZERO;
            environment = INT_ZERO;
            at = 0;
            halted = false;
            reason = 0;
        }

        int condition() {
            if (code.length == 0) {
                return NO_CODE;
            }
            if (halted) {
                return DONE;
            }
            return reason == 0 ? GOING : STOPPED;
        }

        int doUpTo(int n) {
            int count = 0;
            while (count < n && !halted) {
                int kind = code.part(at, 0);
                int a = code.part(at, 1);
                reason = hindrance(kind, a);
                if (reason != 0) {
                    return count;
                }
                perform(kind, a);
                count++;
            }
            return count;
        }

        /** Why the instruction can't be done, 0 if it can; the heap has room for it then. */
        private int hindrance(int kind, int a) {
            if (isWrong(kind, a)) {
                return WRONG;
            }
            if (height + growth(kind) > MOST_STACKED) {
                return DEEP;
            }
            int words = wordsMade(kind, a);
            if (!heap.hasRoomFor(words)) {
                collect();
            }
            return heap.hasRoomFor(words) ? 0 : FULL;
        }

        private boolean isWrong(int kind, int a) {
            switch (kind) {
                case ADD:
                case SUBTRACT:
                case MULTIPLY:
                case LESS:
                case SAME:
                    return !isInt(top()) || !isInt(accumulator);
                case SWITCH:
                    return placeOfCase(a) == NONE;
                case APPLY:
                    return !heap.isFunction(accumulator);
                case OPEN:
                    return heap.blockWords(accumulator) != a;
                default:
                    return kind < HALT || kind > OPEN;
            }
        }

        private static int growth(int kind) {
            return kind == PUSH || kind == APPLY ? 1 : 0;
        }

        private int wordsMade(int kind, int a) {
            switch (kind) {
                case CLOSURE:
                case SELF:
                case BIND:
                    return PAIR_WORDS;
                case MAKE:
                    return 1 + fieldsOf(a);
                case OPEN:
                    return PAIR_WORDS * a;
                case APPLY:
                    return heap.blockKind(accumulator) == SELF_BLOCK ? 2 * PAIR_WORDS : PAIR_WORDS;
                default:
                    return 0;
            }
        }

        private void collect() {
            copyReachable();
            accumulator = heap.copy(accumulator);
            environment = heap.copy(environment);
            for (int i = 0; i < height && i < stack.length; i++) {
                stack[i] = heap.copy(stack[i]);
            }
            heap.useOtherHalf();
        }

        /** Copies what can be reached and answers its words; the half in use stays as it is. */
        int copyReachable() {
            heap.beginCopy();
            heap.copy(accumulator);
            heap.copy(environment);
            for (int i = 0; i < height && i < stack.length; i++) {
                heap.copy(stack[i]);
            }
            heap.copyTheRest();
            return heap.copied;
        }

        private void perform(int kind, int a) {
            int following = at + 1;
            switch (kind) {
                case HALT:
                    halted = true;
                    following = at;
                    break;
                case NUMBER:
                    accumulator = wordOfInt(a);
                    break;
                case ACCESS:
                    accumulator = heap.wordOf(furtherOn(a), 1);
                    break;
                case PUSH:
                    push(accumulator);
                    break;
                case CLOSURE:
                    accumulator = heap.putPair(CLOSURE_BLOCK, wordOfInt(a), environment);
                    break;
                case SELF:
                    accumulator = heap.putPair(SELF_BLOCK, wordOfInt(a), environment);
                    break;
                case JUMP:
                    following = a;
                    break;
                case RETURN:
                    following = intOf(pop());
                    environment = pop();
                    break;
                case APPLY:
                    following = enterFunction(following);
                    break;
                case BIND:
                    bind(accumulator);
                    break;
                case UNBIND:
                    environment = furtherOn(a);
                    break;
                case TAG:
                    accumulator = wordOfTag(a);
                    break;
                case MAKE:
                    make(a);
                    break;
                case SWITCH:
                    following = placeOfCase(a);
                    break;
                case OPEN:
                    open(a);
                    break;
                default:
                    operate(kind);
            }
            at = following;
        }

        private void operate(int kind) {
            int first = intOf(pop());
            int second = intOf(accumulator);
            switch (kind) {
                case ADD:
                    accumulator = wordOfInt(first + second);
                    break;
                case SUBTRACT:
                    accumulator = wordOfInt(first - second);
                    break;
                case MULTIPLY:
                    accumulator = wordOfInt(first * second);
                    break;
                case LESS:
                    accumulator = wordOfTruth(first < second);
                    break;
                default:
                    accumulator = wordOfTruth(first == second);
            }
        }

        private static int wordOfTruth(boolean so) {
            return wordOfTag(so ? TAG_OF_TRUE : TAG_OF_FALSE);
        }

        /** Answers the place of the code of the function in the accumulator. */
        private int enterFunction(int placeBehind) {
            int argument = pop();
            push(environment);
            push(wordOfInt(placeBehind));
            environment = heap.wordOf(accumulator, 2);
            if (heap.blockKind(accumulator) == SELF_BLOCK) {
                bind(accumulator);
            }
            bind(argument);
            return intOf(heap.wordOf(accumulator, 1));
        }

        private void bind(int word) {
            environment = heap.putPair(BINDING_BLOCK, word, environment);
        }

        private void make(int tag) {
            int fields = fieldsOf(tag);
            int below = Math.max(0, height - (fields - 1));
            int pointer = heap.beginBlock(tag, fields);
            for (int i = below; i < height && i < stack.length; i++) {
                heap.put(stack[i]);
            }
            heap.put(accumulator);
            height = below;
            accumulator = pointer;
        }

        private void open(int fields) {
            for (int k = 1; k <= fields; k++) {
                bind(heap.wordOf(accumulator, k));
            }
        }

        private int furtherOn(int a) {
            int word = environment;
            for (int i = 0; i < a; i++) {
                word = heap.wordOf(word, 2);
            }
            return word;
        }

        /** Where the code of the accumulator's case lies, NONE if no CASE has its tag. */
        private int placeOfCase(int cases) {
            int tag = heap.constructorOf(accumulator);
            for (int i = 1; i <= cases && tag != NONE; i++) {
                if (code.part(at + i, 1) == tag) {
                    return code.part(at + i, 2);
                }
            }
            return NONE;
        }

        private int top() {
            return height > 0 && height <= stack.length ? stack[height - 1] : NO_WORD;
        }

        private int pop() {
            int word = top();
            height = Math.max(0, height - 1);
            return word;
        }

        private void push(int word) {
            if (height >= 0 && height < stack.length) {
                stack[height] = word;
                height++;
            }
        }

        int wordAt(int path) {
            int word = accumulator;
            int rest = path;
            for (int steps = 0; steps < 16 && (rest & 3) != 0; steps++) {
                if (heap.constructorOf(word) == NONE) {
                    return NO_WORD;
                }
                word = heap.wordOf(word, rest & 3);
                rest >>>= 2;
            }
            return word;
        }
    }
}
