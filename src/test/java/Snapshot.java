/** All that an object answers of its machine and its heap, to see what a call changes. */
final class Snapshot {
    private static final int[] PATHS = {0, 1, 2, 3, 5, 6, 11, -1};

    private Snapshot() {
    }

    /** What the machine holds: not whether it stopped, nor how the heap lies. */
    static String words(ClosureHeap x) {
        StringBuilder row = new StringBuilder();
        row.append("next ").append(x.next()).append(" depth ").append(x.depth()).append(" live ").append(x.live());
        for (int path : PATHS) {
            row.append(' ').append(x.kind(path)).append(':').append(x.value(path));
        }
        return row.toString();
    }

    static String heap(ClosureHeap x) {
        return "used " + x.used() + " collections " + x.collections();
    }

    static String all(ClosureHeap x) {
        return words(x) + " " + heap(x) + " state " + x.state() + " why " + x.why() + " place " + x.place() + " code "
            + Check.codeOf(x);
    }

    /** Runs by single instructions until the next one is of the kind, or the machine ended; answers how many. */
    static int runTo(ClosureHeap x, String kind) {
        int count = 0;
        while (count < 5000 && x.state() == 1 && x.code(x.next(), 0) != Check.kindOf(kind)) {
            Check.thrown(() -> x.run(1));
            count++;
        }
        return count;
    }
}
