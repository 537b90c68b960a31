/**
 * The promises but for 3, 9 and 10 (which WriteBoundaryTest has): a test for each sentence that
 * names a boundary case.
 */
public final class PromiseBoundaryTest {
    private static final int MIN = Integer.MIN_VALUE;
    private static final int MAX = Integer.MAX_VALUE;

    private PromiseBoundaryTest() {
    }

    public static void main(String[] args) {
        lastOf512Calls();
        depthIsKeptInBounds();
        wordsAreKeptInBounds();
        newIsAsFormatMakesIt();
        formatMakesTheDisk();
        formatForgets();
        readIsBad();
        readIsBadWhenDown();
        readIsDown();
        readIsCorrupt();
        verifyOfNoBlock();
        verifyWhenDown();
        rootWhenDown();
        auditTellsTheLeast();
        auditTellsNone();
        auditWhenDown();
        tamperSetsAnyCell();
        tamperIsNoWrite();
        tamperOfNoCell();
        cellsOfLeastAndMost();
        peekOfNoCell();
        writesSinceFormat();
        slotOfEither();
        downWhenAWriteWasLost();
        Check.finish();
    }

    private static void lastOf512Calls() {
        Check.sentence("What it is", "An object is used for at most 512 calls after it has been made");
        HashedStore s = new HashedStore(5, 6);
        for (int call = 1; call <= 511; call++) {
            Check.due("call " + call, s.write(call % 32, call % 6, call), 0);
        }
        Check.due("call 512", s.read(511 % 32, 511 % 6), 511);
    }

    private static void checkShape(int depth, int words, int blocksDue, int wordsDue) {
        HashedStore s = new HashedStore(depth, words);
        String name = "store(" + depth + ", " + words + ") ";
        Check.due(name + "cells", s.cells(), 2 * (blocksDue * wordsDue + 2 * blocksDue - 1));
        Check.due(name + "last word", s.write(blocksDue - 1, wordsDue - 1, 1), 0);
        Check.due(name + "no word behind", s.write(blocksDue - 1, wordsDue, 1), HashedStore.BAD);
        Check.due(name + "no block behind", s.write(blocksDue, 0, 1), HashedStore.BAD);
        Check.due(name + "read", s.read(blocksDue - 1, wordsDue - 1), 1);
    }

    private static void depthIsKeptInBounds() {
        Check.sentence("Promise 1", "Depth below 0 is 0, above 5 it is 5");
        int[][] depths = {{MIN, 1}, {-1, 1}, {0, 1}, {1, 2}, {4, 16}, {5, 32}, {6, 32}, {31, 32}, {32, 32}, {MAX, 32}};
        for (int[] depth : depths) {
            checkShape(depth[0], 3, depth[1], 3);
        }
    }

    private static void wordsAreKeptInBounds() {
        Check.sentence("Promise 1", "words below 1 are 1, above 6 they are 6");
        int[][] words = {{MIN, 1}, {-1, 1}, {0, 1}, {1, 1}, {2, 2}, {5, 5}, {6, 6}, {7, 6}, {MAX, 6}};
        for (int[] w : words) {
            checkShape(2, w[0], 4, w[1]);
        }
    }

    private static void newIsAsFormatMakesIt() {
        Check.sentence("Promise 1", "As format() makes it");
        // The largest disk can't be seen whole in 512 calls; these shapes can, at both ends of each bound.
        int[][] shapes = {{0, 1}, {-1, 0}, {1, 2}, {0, 6}, {-1, 7}, {5, 1}, {6, 0}, {5, 5}, {4, 6}};
        for (int[] shape : shapes) {
            HashedStore made = new HashedStore(shape[0], shape[1]);
            HashedStore formatted = new HashedStore(shape[0], shape[1]);
            formatted.write(0, 0, 8);
            formatted.crashAfter(1);
            formatted.write(0, 0, 9);
            formatted.format();
            new Seen(formatted).checkSame("format()", made);
            Check.due("no crash told", made.write(0, 0, 8), 0);
        }
        Small.checkFormatted("new ", Small.store());
    }

    private static void formatMakesTheDisk() {
        Check.sentence("Promise 2",
            "All words are 0; the first area has all nodes, and is in use; all cells of the other one are 0");
        for (int writesBefore = 0; writesBefore < 3; writesBefore++) {
            HashedStore s = Small.store();
            for (int n = 0; n < writesBefore; n++) {
                s.write(1, 1, n + 1);
            }
            for (int addr = 0; addr < 14; addr++) {
                s.tamper(addr, MIN + addr);
            }
            Check.due("format", s.format(), 0);
            Small.checkFormatted("formatted after " + writesBefore + " writes ", s);
            Check.due("format again", s.format(), 0);
            Small.checkFormatted("formatted twice ", s);
        }
    }

    private static void formatForgets() {
        Check.sentence("Promise 2", "Not down, no crash told, no writes counted: 0");
        HashedStore s = Small.downAfter(3);
        Check.due("format when down", s.format(), 0);
        Small.checkFormatted("formatted when down ", s);
        Check.due("recover behind it", s.recover(s.root()), HashedStore.BAD);
        s.crashAfter(0);
        Check.due("format with a crash told", s.format(), 0);
        Check.due("write behind it", s.write(0, 0, 9), 0);
        Check.due("only its writes are counted", s.writes(), 4);
    }

    private static void checkReadBad(HashedStore s) {
        for (int wrong : Small.NO_INDEX) {
            Check.due("read of block " + wrong, s.read(wrong, 0), HashedStore.BAD);
            Check.due("read of word " + wrong, s.read(0, wrong), HashedStore.BAD);
            Check.due("read of both " + wrong, s.read(wrong, wrong), HashedStore.BAD);
        }
    }

    private static void readIsBad() {
        Check.sentence("Promise 4", "BAD when there is none such");
        checkReadBad(Small.store());
        HashedStore corrupt = Small.store();
        corrupt.tamper(0, -1);
        checkReadBad(corrupt);
    }

    private static void readIsBadWhenDown() {
        Check.sentence("Promise 4", "BAD when there is none such (also when it is down)");
        checkReadBad(Small.downAfter(0));
        checkReadBad(Small.downAfter(3));
    }

    private static void readIsDown() {
        Check.sentence("Promise 4", "DOWN when it is");
        HashedStore s = Small.downAfter(1);
        s.tamper(0, -1);
        Check.due("a block that is not right", s.read(0, 0), HashedStore.DOWN);
        Check.due("a block that is right", s.read(1, 1), HashedStore.DOWN);
    }

    private static void readIsCorrupt() {
        Check.sentence("Promise 4", "CORRUPT when the block is not right");
        HashedStore s = Small.store();
        s.write(0, 0, MAX);
        for (int addr = 7; addr <= 8; addr++) {
            int old = s.peek(addr);
            s.tamper(addr, old ^ 1);
            Check.due("cell " + addr + " spoiled, word 0", s.read(0, 0), HashedStore.CORRUPT);
            Check.due("cell " + addr + " spoiled, word 1", s.read(0, 1), HashedStore.CORRUPT);
            Check.due("cell " + addr + " spoiled, the other block", s.read(1, 0), 0);
            s.tamper(addr, old);
            Check.due("cell " + addr + " as it was", s.read(0, 0), MAX);
        }
    }

    private static void verifyOfNoBlock() {
        Check.sentence("Promise 5", "Whether a block is right; false when there is none such");
        HashedStore s = Small.store();
        for (int wrong : Small.NO_INDEX) {
            Check.due("block " + wrong, s.verify(wrong), false);
        }
        Check.due("first block", s.verify(0), true);
        Check.due("last block", s.verify(1), true);
        s.tamper(3, 1);
        Check.due("a block that is not right", s.verify(1), false);
    }

    private static void verifyWhenDown() {
        Check.sentence("Promise 5", "false when there is none such, or it is down");
        HashedStore s = Small.downAfter(0);
        Check.due("first block", s.verify(0), false);
        Check.due("last block", s.verify(1), false);
        Check.due("no block", s.verify(2), false);
        s.recover(s.root());
        Check.due("behind recover", s.verify(0), true);
    }

    private static void rootWhenDown() {
        Check.sentence("Promise 6", "The root that is kept; also when it is down");
        for (int n = 0; n <= 3; n++) {
            HashedStore s = Small.downAfter(n);
            s.tamper(4, 3);
            s.tamper(11, 3);
            Check.due("after " + n, s.root(), Small.rootOf(0, 0, 0, 0));
            s.recover(4);
            Check.due("behind a mismatch after " + n, s.root(), Small.rootOf(0, 0, 0, 0));
        }
    }

    private static void auditTellsTheLeast() {
        Check.sentence("Promise 7", "The least block that is not right");
        for (int least = 0; least < 32; least++) {
            HashedStore s = new HashedStore(5, 2);
            for (int b = least; b < 32; b++) {
                s.tamper(2 * b + b % 2, b + 1);
            }
            Check.due("all from " + least + " on are spoiled", s.audit(), least);
        }
    }

    private static void auditTellsNone() {
        Check.sentence("Promise 7", "NONE when there is none");
        Check.due("one block", new HashedStore(0, 1).audit(), HashedStore.NONE);
        HashedStore most = new HashedStore(5, 6);
        Check.due("32 blocks", most.audit(), HashedStore.NONE);
        most.tamper(192, 1);
        for (int addr = 255; addr < 510; addr++) {
            most.tamper(addr, -1);
        }
        Check.due("the stored root and the other area are spoiled", most.audit(), HashedStore.NONE);
    }

    private static void auditWhenDown() {
        Check.sentence("Promise 7", "DOWN when it is");
        HashedStore s = Small.downAfter(0);
        Check.due("all are right", s.audit(), HashedStore.DOWN);
        s.tamper(0, 1);
        Check.due("one is not", s.audit(), HashedStore.DOWN);
    }

    private static HashedStore withSecondInUse() {
        HashedStore s = Small.store();
        s.write(0, 0, 9);
        return s;
    }

    private static void tamperSetsAnyCell() {
        Check.sentence("Promise 8", "Sets a cell of the disk, whatever is in use, or down");
        HashedStore[] stores = {Small.store(), withSecondInUse(), Small.downAfter(2)};
        int[] words = {MIN, -1, 0, MAX};
        for (HashedStore s : stores) {
            int slot = s.slot();
            int root = s.root();
            for (int addr = 0; addr < 14; addr++) {
                for (int word : words) {
                    s.tamper(addr, word);
                    Check.due("cell " + addr, s.peek(addr), word);
                }
            }
            Check.due("slot", s.slot(), slot);
            Check.due("root", s.root(), root);
        }
    }

    private static void tamperIsNoWrite() {
        Check.sentence("Promise 8", "and counts as no write");
        HashedStore s = Small.store();
        s.crashAfter(0);
        for (int addr = 0; addr < 14; addr++) {
            s.tamper(addr, s.peek(addr));
        }
        Check.due("none is lost", s.down(), false);
        Check.due("none is counted", s.writes(), 0);
        s.crashAfter(1);
        s.tamper(13, 5);
        Check.due("none of a crash told is used up", s.write(0, 0, 9), HashedStore.DOWN);
        s.tamper(7, 8);
        Check.due("none is counted when down", s.writes(), 1);
    }

    private static void tamperOfNoCell() {
        Check.sentence("Promise 8", "nothing is done when there is none such");
        HashedStore[] stores = {Small.store(), withSecondInUse(), Small.downAfter(2)};
        for (HashedStore s : stores) {
            Seen seen = new Seen(s);
            for (int addr : Small.NO_CELL) {
                s.tamper(addr, 5);
            }
            seen.checkSame("no such cell", s);
        }
    }

    private static void cellsOfLeastAndMost() {
        Check.sentence("Promise 11", "How many cells the disk has");
        Check.due("least", new HashedStore(0, 1).cells(), 4);
        Check.due("most", new HashedStore(5, 6).cells(), 510);
        Check.due("below the least", new HashedStore(MIN, MIN).cells(), 4);
        Check.due("above the most", new HashedStore(MAX, MAX).cells(), 510);
        Check.due("when down", Small.downAfter(1).cells(), 14);
    }

    private static void peekOfNoCell() {
        Check.sentence("Promise 12", "A cell; 0 when there is none such");
        HashedStore[] stores = {Small.store(), withSecondInUse(), Small.downAfter(2)};
        for (HashedStore s : stores) {
            for (int addr = 0; addr < 14; addr++) {
                s.tamper(addr, -1 - addr);
            }
            for (int addr : Small.NO_CELL) {
                Check.due("cell " + addr, s.peek(addr), 0);
            }
            Check.due("first cell", s.peek(0), -1);
            Check.due("last cell", s.peek(13), -14);
        }
    }

    private static void writesSinceFormat() {
        Check.sentence("Promise 13", "How many writes there were since format()");
        HashedStore s = Small.store();
        Check.due("new", s.writes(), 0);
        for (int n = 0; n <= 3; n++) {
            Check.due("the one that is lost was none, after " + n, Small.downAfter(n).writes(), n);
        }
        s.write(0, 0, 9);
        s.write(0, 0, -1);
        s.write(0, 2, 1);
        s.tamper(7, 1);
        s.write(0, 0, 1);
        Check.due("refused calls have none", s.writes(), 4);
        s.format();
        Check.due("format() itself has none", s.writes(), 0);
        s.write(0, 0, 9);
        s.crashAfter(1);
        s.write(0, 0, 9);
        s.recover(s.root());
        Check.due("recover() does not begin anew", s.writes(), 5);
    }

    private static void slotOfEither() {
        Check.sentence("Promise 14", "Which area is in use: 0, 1");
        HashedStore s = Small.store();
        for (int n = 0; n < 20; n++) {
            Check.due("after " + n + " writes", s.slot(), n % 2);
            s.write(0, 0, 0);
        }
        s.write(0, 0, 1);
        s.crashAfter(0);
        s.write(0, 0, 2);
        Check.due("down with the second in use", s.slot(), 1);
        s.format();
        Check.due("formatted", s.slot(), 0);
    }

    private static void downWhenAWriteWasLost() {
        Check.sentence("Promise 15", "Whether it is down");
        HashedStore s = Small.store();
        s.crashAfter(4);
        s.write(0, 0, 9);
        Check.due("all writes are used up, none was lost", s.down(), false);
        s.write(0, 0, 9);
        Check.due("one was lost", s.down(), true);
        s.recover(3);
        Check.due("behind a mismatch", s.down(), true);
        s.recover(s.root());
        Check.due("recovered", s.down(), false);
    }
}
