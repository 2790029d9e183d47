import java.util.ArrayDeque;
import java.util.ArrayList;
import java.util.Collections;
import java.util.IdentityHashMap;
import java.util.List;
import java.util.Set;

/** The machine of the document, with Java's objects for its blocks and words; only their sizes are counted. */
final class MachineModel {
    private static final int CLOSURE = 8;
    private static final int SELF = 9;
    private static final int BINDING = 10;

    /** A TAG is a block of no words, which takes no room. */
    private static final class Block {
        final int kind;
        final List<Object> words = new ArrayList<>();

        Block(int kind, Object... words) {
            this.kind = kind;
            Collections.addAll(this.words, words);
        }

        int size() {
            return words.isEmpty() ? 0 : 1 + words.size();
        }
    }

    private final int words;
    private final int[][] code = new int[120][3];
    private Object accumulator = 0;
    private Object environment = 0;
    private final List<Object> stack = new ArrayList<>();
    int next = 0;
    int why = 0;
    int used = 0;
    int collections = 0;
    boolean done = false;

    /** Takes the code from another object than the one that is compared. */
    MachineModel(int words, ClosureHeap compiled, int count) {
        this.words = words;
        for (int k = 0; k < count; k++) {
            for (int what = 0; what < 3; what++) {
                code[k][what] = compiled.code(k, what);
            }
        }
    }

    int state() {
        return done ? 2 : why != 0 ? 3 : 1;
    }

    int depth() {
        return stack.size();
    }

    int live() {
        Set<Object> seen = Collections.newSetFromMap(new IdentityHashMap<>());
        ArrayDeque<Object> open = new ArrayDeque<>(stack);
        open.add(accumulator);
        open.add(environment);
        int sum = 0;
        while (!open.isEmpty()) {
            if (open.pop() instanceof Block block && seen.add(block)) {
                sum += block.size();
                open.addAll(block.words);
            }
        }
        return sum;
    }

    private Object end(int path) {
        Object word = accumulator;
        for (int i = 0; i < 32 && (path >>> i & 3) != 0; i += 2) {
            int step = path >>> i & 3;
            if (!(word instanceof Block block) || block.kind >= 8 || step > block.words.size()) {
                return null;
            }
            word = block.words.get(step - 1);
        }
        return word;
    }

    int kind(int path) {
        Object word = end(path);
        if (word == null) {
            return 0;
        }
        return word instanceof Block block ? block.kind < 8 ? 2 : 3 : 1;
    }

    int value(int path) {
        Object word = end(path);
        if (word == null) {
            return 0;
        }
        if (word instanceof Block block) {
            return block.kind < 8 ? block.kind : (Integer) block.words.get(0);
        }
        return (Integer) word;
    }

    private boolean stop(int reason) {
        why = reason;
        return false;
    }

    private boolean room(int size) {
        if (used + size > words) {
            used = live();
            collections++;
        }
        if (used + size > words) {
            return stop(2);
        }
        used += size;
        return true;
    }

    private Object pop() {
        return stack.remove(stack.size() - 1);
    }

    private Object further(int a) {
        Object word = environment;
        for (int i = 0; i < a; i++) {
            word = ((Block) word).words.get(1);
        }
        return word;
    }

    /** Does an instruction; false if it stops. */
    boolean step() {
        int a = code[next][1];
        int to = next + 1;
        switch (code[next][0]) {
            case 0 -> {
                done = true;
                to = next;
            }
            case 1 -> accumulator = a;
            case 2 -> accumulator = ((Block) further(a)).words.get(0);
            case 3 -> {
                if (stack.size() >= 40) {
                    return stop(3);
                }
                stack.add(accumulator);
            }
            case 4, 5, 6, 7, 8 -> {
                if (!operate(code[next][0])) {
                    return stop(1);
                }
            }
            case 9, 10 -> {
                if (!room(3)) {
                    return false;
                }
                accumulator = new Block(code[next][0] == 9 ? CLOSURE : SELF, a, environment);
            }
            case 11 -> to = a;
            case 12 -> {
                to = (Integer) pop();
                environment = pop();
            }
            case 13 -> {
                to = apply(to);
                if (to < 0) {
                    return false;
                }
            }
            case 14 -> {
                if (!room(3)) {
                    return false;
                }
                environment = new Block(BINDING, accumulator, environment);
            }
            case 15 -> environment = further(a);
            case 16 -> accumulator = new Block(a);
            case 17 -> {
                if (!room(1 + a % 4)) {
                    return false;
                }
                Block block = new Block(a, accumulator);
                for (int i = 1; i < a % 4; i++) {
                    block.words.add(0, pop());
                }
                accumulator = block;
            }
            case 18 -> {
                to = chosen(a);
                if (to < 0) {
                    return stop(1);
                }
            }
            case 20 -> {
                if (!room(3 * a)) {
                    return false;
                }
                for (Object word : ((Block) accumulator).words) {
                    environment = new Block(BINDING, word, environment);
                }
            }
            default -> throw new AssertionError("a CASE can't be done");
        }
        next = to;
        return true;
    }

    private boolean operate(int kind) {
        if (!(stack.get(stack.size() - 1) instanceof Integer first) || !(accumulator instanceof Integer second)) {
            return false;
        }
        pop();
        long m = first;
        long n = second;
        if (kind >= 7) {
            accumulator = new Block((kind == 7 ? m < n : m == n) ? 4 : 0);
            return true;
        }
        long exact = kind == 4 ? m + n : kind == 5 ? m - n : m * n;
        accumulator = (int) (Math.floorMod(exact + (1L << 30), 1L << 31) - (1L << 30));
        return true;
    }

    private int apply(int behind) {
        if (!(accumulator instanceof Block block) || block.kind < 8) {
            stop(1);
            return -1;
        }
        if (stack.size() >= 40) {
            stop(3);
            return -1;
        }
        if (!room(block.kind == SELF ? 6 : 3)) {
            return -1;
        }
        Object x = pop();
        stack.add(environment);
        stack.add(behind);
        environment = block.words.get(1);
        if (block.kind == SELF) {
            environment = new Block(BINDING, block, environment);
        }
        environment = new Block(BINDING, x, environment);
        return (Integer) block.words.get(0);
    }

    private int chosen(int cases) {
        if (accumulator instanceof Block block && block.kind < 8) {
            for (int i = 1; i <= cases; i++) {
                if (code[next + i][1] == block.kind) {
                    return code[next + i][2];
                }
            }
        }
        return -1;
    }
}
