/**
 * The store that most tests use: two blocks of two words. In an area of seven cells, the words are
 * cells 0 to 3, and nodes 1 to 3 are cells 4 to 6; the second area begins with cell 7.
 */
final class Small {
    /** Neither a block nor a word of this store has such a number. */
    static final int[] NO_INDEX = {
        Integer.MIN_VALUE, Integer.MIN_VALUE + 1, -2, -1, 2, 3, Integer.MAX_VALUE - 1, Integer.MAX_VALUE};
    static final int[] NO_CELL = {
        Integer.MIN_VALUE, Integer.MIN_VALUE + 1, -14, -1, 14, 15, Integer.MAX_VALUE - 1, Integer.MAX_VALUE};

    private Small() {
    }

    static HashedStore store() {
        return new HashedStore(1, 2);
    }

    static int leaf(int b, int word0, int word1) {
        return Model.mix(Model.mix(b, word0), word1);
    }

    static int rootOf(int a, int b, int c, int d) {
        return Model.mix(leaf(0, a, b), leaf(1, c, d));
    }

    /** Down in its first write, of 9 to word 0 of block 0, with so many writes done. */
    static HashedStore downAfter(int writes) {
        HashedStore s = store();
        s.crashAfter(writes);
        Check.due("write that crashes after " + writes, s.write(0, 0, 9), HashedStore.DOWN);
        return s;
    }

    static void checkFormatted(String name, HashedStore s) {
        int[] cells = {0, 0, 0, 0, rootOf(0, 0, 0, 0), leaf(0, 0, 0), leaf(1, 0, 0), 0, 0, 0, 0, 0, 0, 0};
        for (int addr = 0; addr < cells.length; addr++) {
            Check.due(name + "peek(" + addr + ")", s.peek(addr), cells[addr]);
        }
        Check.due(name + "root", s.root(), rootOf(0, 0, 0, 0));
        Check.due(name + "slot", s.slot(), 0);
        Check.due(name + "writes", s.writes(), 0);
        Check.due(name + "down", s.down(), false);
        Check.due(name + "audit", s.audit(), HashedStore.NONE);
    }
}
