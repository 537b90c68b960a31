/** Writes and crashes, promises 3, 9 and 10: a test for each sentence that names a boundary case. */
public final class WriteBoundaryTest {
    private static final int MIN = Integer.MIN_VALUE;
    private static final int MAX = Integer.MAX_VALUE;

    private WriteBoundaryTest() {
    }

    public static void main(String[] args) {
        writeSetsTheWord();
        writeIsBad();
        writeIsBadWhenDown();
        writeIsDown();
        writeIsCorrupt();
        writeMakesTheOtherAreaWhole();
        writeGoesInOrder();
        writeThatIsLost();
        writeThatTurns();
        crashAfterNone();
        crashAfterTheMost();
        crashToldAgain();
        crashAfterBelowZero();
        crashAfterWhenDown();
        recoverToTheFirst();
        recoverToTheSecond();
        recoverComesUp();
        recoverMismatch();
        recoverBad();
        crashLeavesAnOldOrANewRoot();
        Check.finish();
    }

    private static void writeSetsTheWord() {
        Check.sentence("Promise 3", "Word i of block b becomes word: 0");
        HashedStore s = Small.store();
        int[] words = {0, 1, MAX - 1, MAX};
        for (int cell = 0; cell < 4; cell++) {
            for (int word : words) {
                Check.due("write of " + word, s.write(cell / 2, cell % 2, word), 0);
                Check.due("read of it", s.read(cell / 2, cell % 2), word);
            }
        }
        Check.due("every word is full", s.root(), Small.rootOf(MAX, MAX, MAX, MAX));
    }

    private static void checkWriteBad(HashedStore s) {
        Seen seen = new Seen(s);
        for (int wrong : Small.NO_INDEX) {
            Check.due("write to block " + wrong, s.write(wrong, 0, 1), HashedStore.BAD);
            Check.due("write to word " + wrong, s.write(1, wrong, 1), HashedStore.BAD);
            Check.due("write to both " + wrong, s.write(wrong, wrong, 1), HashedStore.BAD);
        }
        int[] belowZero = {-1, -2, HashedStore.MISMATCH, MIN + 1, MIN};
        for (int word : belowZero) {
            Check.due("write of " + word, s.write(1, 1, word), HashedStore.BAD);
        }
        seen.checkSame("BAD", s);
    }

    private static void writeIsBad() {
        Check.sentence("Promise 3", "BAD when there is none such, or word is below 0");
        checkWriteBad(Small.store());
        HashedStore corrupt = Small.store();
        corrupt.tamper(3, 8);
        checkWriteBad(corrupt);
        HashedStore told = Small.store();
        told.crashAfter(4);
        checkWriteBad(told);
        Check.due("BAD uses up no write of a crash told", told.write(0, 0, 9), 0);
        // Cell 2 is word 0 of block 1: a word too far must not reach it.
        Check.due("word 2 of block 0 is not word 0 of block 1", told.write(0, 2, 1), HashedStore.BAD);
    }

    private static void writeIsBadWhenDown() {
        Check.sentence("Promise 3", "BAD when there is none such, or word is below 0 (also when it is down)");
        checkWriteBad(Small.downAfter(0));
        checkWriteBad(Small.downAfter(3));
    }

    private static void writeIsDown() {
        Check.sentence("Promise 3", "DOWN when it is");
        HashedStore s = Small.downAfter(2);
        s.tamper(0, -1);
        Seen seen = new Seen(s);
        Check.due("also when the block is not right", s.write(0, 0, 1), HashedStore.DOWN);
        Check.due("block 1", s.write(1, 1, MAX), HashedStore.DOWN);
        seen.checkSame("DOWN", s);
    }

    private static void writeIsCorrupt() {
        Check.sentence("Promise 3", "CORRUPT, changing nothing, when the block is not right");
        int[][] spoiled = {{0, 1}, {1, 1}, {0, -1}, {1, MIN}, {6, 1}};
        for (int[] cell : spoiled) {
            HashedStore s = Small.store();
            s.crashAfter(3);
            s.tamper(cell[0], cell[1]);
            Seen seen = new Seen(s);
            Check.due("cell " + cell[0] + " spoiled", s.write(0, 0, 9), HashedStore.CORRUPT);
            Check.due("of the word that is there", s.write(0, 1, 0), HashedStore.CORRUPT);
            seen.checkSame("CORRUPT", s);
            s.format();
            Check.due("right again", s.write(0, 0, 9), 0);
        }
        HashedStore told = Small.store();
        told.crashAfter(0);
        told.tamper(0, 1);
        Check.due("CORRUPT before a write could be lost", told.write(0, 0, 9), HashedStore.CORRUPT);
        told.tamper(0, 0);
        Check.due("the crash stays told", told.write(0, 0, 9), HashedStore.DOWN);
    }

    private static void writeMakesTheOtherAreaWhole() {
        Check.sentence("Promise 3", "The other area becomes what the one in use is, with this word,"
            + " and new nodes on the way of this block, by the nodes beside it");
        HashedStore s = Small.store();
        for (int addr = 7; addr < 14; addr++) {
            s.tamper(addr, MIN);
        }
        s.tamper(3, -8);
        s.tamper(4, 44);
        s.tamper(5, 55);
        Check.due("write beside a block that is not right", s.write(0, 1, 9), 0);
        int[] due = {0, 9, 0, -8, Small.rootOf(0, 9, 0, 0), Small.leaf(0, 0, 9), Small.leaf(1, 0, 0)};
        for (int c = 0; c < 7; c++) {
            Check.due("cell " + c, s.peek(7 + c), due[c]);
        }
        Check.due("the area that was in use keeps what it has", s.peek(5), 55);
        Check.due("the block that was not right is not made so", s.audit(), 1);

        HashedStore deep = new HashedStore(2, 1);
        int node2 = deep.peek(5);
        deep.tamper(7, 77);
        Check.due("node 4 does not concern block 3", deep.write(3, 0, 5), 0);
        Check.due("a node that is not on the way is copied as it is", deep.peek(18), 77);
        Check.due("also above it", deep.peek(16), node2);
    }

    private static void writeGoesInOrder() {
        Check.sentence("Promise 3", "its cells are written, those that differ, words first, in order,"
            + " then nodes from the last one to the root");
        int[] order = {11, 12, 13, 14, 21, 20, 19, 18, 17, 16, 15};
        for (int n = 0; n < 11; n++) {
            HashedStore s = new HashedStore(2, 1);
            for (int addr = 11; addr < 22; addr++) {
                s.tamper(addr, -3);
            }
            s.crashAfter(n);
            Check.due("write that is lost after " + n, s.write(2, 0, 6), HashedStore.DOWN);
            for (int k = 0; k < 11; k++) {
                Check.due("after " + n + " cell " + order[k] + " is written", s.peek(order[k]) != -3, k < n);
            }
        }
        HashedStore some = Small.store();
        some.tamper(7, 9);
        some.tamper(13, Small.leaf(1, 0, 0));
        some.write(0, 0, 9);
        Check.due("a word and a leaf that do not differ are not written", some.writes(), 2);
    }

    private static void writeThatIsLost() {
        Check.sentence("Promise 3", "DOWN when one of these writes was lost");
        for (int n = 0; n <= 3; n++) {
            HashedStore s = Small.downAfter(n);
            Check.due("down after " + n, s.down(), true);
            Check.due("the old area in use after " + n, s.slot(), 0);
            Check.due("the old root after " + n, s.root(), Small.rootOf(0, 0, 0, 0));
            Check.due("the old root's area is whole after " + n, s.recover(s.root()), 0);
            Check.due("all of it after " + n, s.audit(), HashedStore.NONE);
            Check.due("the old word after " + n, s.read(0, 0), 0);
        }
        HashedStore equal = Small.store();
        equal.write(0, 0, 9);
        equal.write(0, 0, 9);
        equal.crashAfter(0);
        Check.due("no cell differs: there is none to lose", equal.write(0, 0, 9), 0);
        Check.due("not down", equal.down(), false);
        Check.due("the crash stays told", equal.write(0, 0, 8), HashedStore.DOWN);
    }

    private static void writeThatTurns() {
        Check.sentence("Promise 3", "Behind the last one this area is in use, and the new root kept");
        HashedStore s = Small.store();
        s.crashAfter(4);
        Check.due("the last write is the last before the crash", s.write(0, 0, 9), 0);
        Check.due("slot", s.slot(), 1);
        Check.due("root", s.root(), Small.rootOf(9, 0, 0, 0));
        s.format();
        int root = s.root();
        Check.due("write of the word that is there", s.write(0, 0, 0), 0);
        Check.due("turns to the other area too", s.slot(), 1);
        Check.due("the root is the same", s.root(), root);
        int writes = s.writes();
        Check.due("write with no cell that differs", s.write(0, 0, 0), 0);
        Check.due("turns too", s.slot(), 0);
        Check.due("without a write", s.writes(), writes);
    }

    private static void crashAfterNone() {
        Check.sentence("Promise 9", "A crash after so many writes from now on");
        HashedStore s = Small.store();
        s.crashAfter(0);
        Check.due("not down by the telling", s.down(), false);
        Check.due("the first write is lost", s.write(0, 0, 9), HashedStore.DOWN);
        Check.due("nothing written", s.peek(7), 0);
    }

    private static void crashAfterTheMost() {
        Check.sentence("Promise 9", "A crash after so many writes from now on");
        HashedStore s = Small.store();
        s.write(0, 0, 9);
        s.crashAfter(MAX);
        for (int n = 0; n < 100; n++) {
            Check.due("MAX: write " + n, s.write(n % 2, 0, n), 0);
        }
    }

    private static void crashToldAgain() {
        Check.sentence("Promise 9", "(told again, anew)");
        HashedStore s = Small.store();
        s.crashAfter(MAX);
        s.crashAfter(0);
        s.crashAfter(4);
        Check.due("later", s.write(0, 0, 9), 0);
        s.crashAfter(4);
        s.crashAfter(2);
        Check.due("sooner", s.write(0, 0, 9), HashedStore.DOWN);
        Check.due("not both together", s.writes(), 6);
    }

    private static void crashAfterBelowZero() {
        Check.sentence("Promise 9", "Nothing is done when writes is below 0");
        int[] belowZero = {-1, -2, MIN + 1, MIN};
        for (int n : belowZero) {
            HashedStore s = Small.store();
            s.crashAfter(n);
            Check.due("none told, then " + n, s.write(0, 0, 9), 0);
            s.crashAfter(1);
            s.crashAfter(n);
            Check.due("one told, then " + n, s.write(0, 0, 8), HashedStore.DOWN);
            Check.due("one more write behind " + n, s.writes(), 5);
        }
    }

    private static void crashAfterWhenDown() {
        Check.sentence("Promise 9", "Nothing is done when writes is below 0, or it is down");
        HashedStore s = Small.downAfter(1);
        Seen seen = new Seen(s);
        s.crashAfter(0);
        s.crashAfter(9);
        seen.checkSame("a crash told", s);
        Check.due("the write stays refused", s.write(0, 0, 9), HashedStore.DOWN);
        s.recover(s.root());
        Check.due("none is told behind recover", s.write(0, 0, 9), 0);
    }

    private static void recoverToTheFirst() {
        Check.sentence("Promise 10", "if the root of the first area is trustedRoot");
        HashedStore both = Small.store();
        both.write(0, 0, 9);
        both.write(0, 0, 9);
        both.write(0, 0, 9);
        both.crashAfter(0);
        both.write(0, 0, 8);
        Check.due("both have it, the second is in use", both.slot(), 1);
        Check.due("recover", both.recover(Small.rootOf(9, 0, 0, 0)), 0);
        Check.due("the first one is taken", both.slot(), 0);

        HashedStore one = new HashedStore(0, 1);
        one.crashAfter(1);
        one.write(0, 0, 5);
        Check.due("one block of 0: both roots are 0", one.recover(0), 0);
        Check.due("the whole one is taken", one.read(0, 0), 0);
    }

    private static void recoverToTheSecond() {
        Check.sentence("Promise 10", "or else that of the second one: that area is in use, the root is that");
        HashedStore s = Small.store();
        s.write(0, 0, 9);
        s.write(1, 0, 8);
        s.crashAfter(0);
        s.write(0, 0, 7);
        Check.due("the first is in use", s.slot(), 0);
        Check.due("recover", s.recover(Small.rootOf(9, 0, 0, 0)), 0);
        Check.due("slot", s.slot(), 1);
        Check.due("root", s.root(), Small.rootOf(9, 0, 0, 0));
        Check.due("its words", s.read(0, 0), 9);
        Check.due("and not the other's", s.read(1, 0), 0);

        HashedStore forged = Small.downAfter(1);
        forged.tamper(11, -42);
        Check.due("recover to a root that was set by hand", forged.recover(-42), 0);
        Check.due("slot of it", forged.slot(), 1);
        Check.due("root of it", forged.root(), -42);
        Check.due("no block comes to it", forged.audit(), 0);
    }

    private static void recoverComesUp() {
        Check.sentence("Promise 10", "it is not down, no crash is told: 0");
        HashedStore s = Small.downAfter(2);
        Check.due("recover", s.recover(s.root()), 0);
        Check.due("down", s.down(), false);
        Check.due("the words and nodes that came are not written again", s.write(0, 0, 9), 0);
        Check.due("writes", s.writes(), 4);
        for (int n = 0; n < 8; n++) {
            Check.due("write " + n, s.write(n % 2, 1, 100 + n), 0);
        }
    }

    private static void recoverMismatch() {
        Check.sentence("Promise 10", "MISMATCH when neither is");
        HashedStore s = Small.downAfter(3);
        Seen seen = new Seen(s);
        int root = s.root();
        int[] wrong = {root + 1, root - 1, -root, 1, MIN, MAX, Small.rootOf(9, 0, 0, 0)};
        for (int trusted : wrong) {
            Check.due("recover(" + trusted + ")", s.recover(trusted), HashedStore.MISMATCH);
        }
        seen.checkSame("MISMATCH", s);
        s.tamper(4, root + 1);
        Check.due("the root kept aside is not asked", s.recover(root), HashedStore.MISMATCH);
        s.tamper(4, root);
        Check.due("it can be told again", s.recover(root), 0);
    }

    private static void recoverBad() {
        Check.sentence("Promise 10", "BAD when it is not down");
        HashedStore s = Small.store();
        s.crashAfter(4);
        Seen seen = new Seen(s);
        int[] roots = {s.root(), 0, 1, MIN, MAX};
        for (int trusted : roots) {
            Check.due("recover(" + trusted + ")", s.recover(trusted), HashedStore.BAD);
        }
        seen.checkSame("BAD", s);
        Check.due("four writes", s.write(0, 0, 9), 0);
        s.recover(Small.rootOf(0, 0, 0, 0));
        Check.due("does not turn back", s.slot(), 1);
        Check.due("the crash stays told", s.write(0, 0, 9), HashedStore.DOWN);
        s.recover(s.root());
        Check.due("up again, BAD again", s.recover(s.root()), HashedStore.BAD);
    }

    private static void crashLeavesAnOldOrANewRoot() {
        Check.sentence("What it is", "a write makes the other one of two areas whole,"
            + " so that a crash leaves an old or a new root");
        for (int earlier = 0; earlier < 4; earlier++) {
            int writesOfTheLast = withWrites(earlier + 1).writes() - withWrites(earlier).writes();
            for (int n = 0; n <= writesOfTheLast; n++) {
                crashInTheLast(earlier, n, n < writesOfTheLast);
            }
        }
    }

    /** Each write goes to a word of its own, so that no root comes twice. */
    private static HashedStore withWrites(int count) {
        HashedStore s = new HashedStore(3, 2);
        for (int n = 0; n < count; n++) {
            s.write(5 * n % 8, n % 2, 100 + n);
        }
        return s;
    }

    private static void crashInTheLast(int earlier, int n, boolean isLost) {
        String name = "write " + (earlier + 1) + ", crash after " + n + ": ";
        HashedStore s = withWrites(earlier);
        int oldRoot = s.root();
        s.crashAfter(n);
        Check.due(name + "write", s.write(5 * earlier % 8, earlier % 2, 100 + earlier), isLost ? HashedStore.DOWN : 0);
        Check.due(name + "recover to the old root", s.recover(oldRoot), isLost ? 0 : HashedStore.BAD);
        HashedStore due = withWrites(isLost ? earlier : earlier + 1);
        Check.due(name + "root", s.root(), due.root());
        Check.due(name + "audit", s.audit(), HashedStore.NONE);
        for (int cell = 0; cell < 16; cell++) {
            Check.due(name + "word " + cell, s.read(cell / 2, cell % 2), due.read(cell / 2, cell % 2));
        }
    }
}
