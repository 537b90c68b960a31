/** All that can be seen of a store at one time, to be held against what is seen later. */
final class Seen {
    private final int[] cells;
    private final int root;
    private final int slot;
    private final int writes;
    private final boolean down;

    Seen(HashedStore s) {
        cells = new int[s.cells()];
        for (int addr = 0; addr < cells.length; addr++) {
            cells[addr] = s.peek(addr);
        }
        root = s.root();
        slot = s.slot();
        writes = s.writes();
        down = s.down();
    }

    void checkSame(String what, HashedStore s) {
        for (int addr = 0; addr < cells.length; addr++) {
            Check.due(what + " changes nothing: peek(" + addr + ")", s.peek(addr), cells[addr]);
        }
        Check.due(what + " changes nothing: root", s.root(), root);
        Check.due(what + " changes nothing: slot", s.slot(), slot);
        Check.due(what + " changes nothing: writes", s.writes(), writes);
        Check.due(what + " changes nothing: down", s.down(), down);
    }
}
