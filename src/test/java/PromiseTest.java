/** Each promise of the document by its number: ordinary inputs, edges, wrong inputs. */
public final class PromiseTest {
    private static final int MIN = Integer.MIN_VALUE;
    private static final int MAX = Integer.MAX_VALUE;

    private PromiseTest() {
    }

    public static void main(String[] args) {
        promise1ANewObject();
        promise2Format();
        promise2FormatEndsCrashAndDown();
        promise3Write();
        promise3WriteRefuses();
        promise3WriteOrder();
        promise3WordsInOrder();
        promise3WriteCopiesWhatIsBeside();
        promise3WriteOfNothingNew();
        promise4Read();
        promise5Verify();
        promise6Root();
        promise7Audit();
        promise8Tamper();
        promise9CrashAfter();
        promise10Recover();
        promise10RecoverTakesTheFirstArea();
        promise11Cells();
        promise12Peek();
        promise13Writes();
        promise14Slot();
        promise15Down();
        Check.finish();
    }

    private static void promise1ANewObject() {
        int[][] shapes = {
            {0, 1, 0, 1}, {5, 6, 5, 6}, {3, 4, 3, 4},
            {-1, 0, 0, 1}, {6, 7, 5, 6}, {MIN, MAX, 0, 6}, {MAX, MIN, 5, 1}};
        for (int[] shape : shapes) {
            HashedStore s = new HashedStore(shape[0], shape[1]);
            String name = "1: store(" + shape[0] + ", " + shape[1] + ") ";
            int blocks = 1 << shape[2];
            Check.due(name + "cells", s.cells(), 2 * (blocks * shape[3] + 2 * blocks - 1));
            Check.due(name + "last word", s.read(blocks - 1, shape[3] - 1), 0);
            Check.due(name + "block behind", s.read(blocks, 0), HashedStore.BAD);
            Check.due(name + "word behind", s.read(0, shape[3]), HashedStore.BAD);
            Check.due(name + "audit", s.audit(), HashedStore.NONE);
        }
        Small.checkFormatted("1: new ", Small.store());
    }

    private static void promise2Format() {
        HashedStore s = Small.store();
        s.write(0, 1, 5);
        s.tamper(12, 77);
        Check.due("2: format", s.format(), 0);
        Small.checkFormatted("2: formatted ", s);
        s.write(0, 1, 5);
        s.write(1, 1, 6);
        s.tamper(0, -1);
        Check.due("2: format", s.format(), 0);
        Small.checkFormatted("2: formatted again ", s);
    }

    private static void promise2FormatEndsCrashAndDown() {
        HashedStore s = Small.downAfter(2);
        Check.due("2: format when down", s.format(), 0);
        Small.checkFormatted("2: formatted when down ", s);
        Check.due("2: no crash told behind it", s.write(0, 0, 9), 0);
        s.crashAfter(0);
        s.format();
        Check.due("2: format forgets a crash told", s.write(0, 0, 9), 0);
    }

    private static void promise3Write() {
        HashedStore s = Small.store();
        Check.due("3: write", s.write(1, 0, 8), 0);
        int[] cells = {0, 0, 8, 0, Small.rootOf(0, 0, 8, 0), Small.leaf(0, 0, 0), Small.leaf(1, 8, 0)};
        for (int c = 0; c < cells.length; c++) {
            Check.due("3: cell " + c + " of the other area", s.peek(7 + c), cells[c]);
        }
        Check.due("3: the old area stays", s.peek(4), Small.rootOf(0, 0, 0, 0));
        Check.due("3: the old word stays", s.peek(2), 0);
        Check.due("3: slot", s.slot(), 1);
        Check.due("3: root", s.root(), Small.rootOf(0, 0, 8, 0));
        Check.due("3: largest word", s.write(0, 1, MAX), 0);
        Check.due("3: back in the first area", s.slot(), 0);
        Check.due("3: root of both", s.root(), Small.rootOf(0, MAX, 8, 0));
        Check.due("3: both words", s.read(0, 1), MAX);
        Check.due("3: both words", s.read(1, 0), 8);
    }

    private static void promise3WriteRefuses() {
        HashedStore s = Small.store();
        int[][] wrong = {{-1, 0, 1}, {2, 0, 1}, {MAX, 0, 1}, {MIN, 0, 1}, {0, -1, 1}, {0, 2, 1},
            {0, MAX, 1}, {0, MIN, 1}, {0, 0, -1}, {0, 0, MIN}};
        for (int[] w : wrong) {
            Check.due("3: write of " + w[0] + " " + w[1] + " " + w[2], s.write(w[0], w[1], w[2]), HashedStore.BAD);
        }
        Small.checkFormatted("3: behind BAD ", s);
        s.tamper(1, 3);
        Check.due("3: BAD before CORRUPT", s.write(0, 0, -1), HashedStore.BAD);
        Check.due("3: CORRUPT", s.write(0, 0, 1), HashedStore.CORRUPT);
        s.tamper(1, 0);
        Small.checkFormatted("3: CORRUPT changes nothing ", s);
        HashedStore down = Small.downAfter(0);
        for (int[] w : wrong) {
            Check.due("3: BAD when down", down.write(w[0], w[1], w[2]), HashedStore.BAD);
        }
        down.tamper(0, 5);
        Check.due("3: DOWN before CORRUPT", down.write(0, 0, 1), HashedStore.DOWN);
    }

    /** The writes of 9 to word 0 of block 0: the word, the leaves 3 and 2, the root. */
    private static void promise3WriteOrder() {
        int[] order = {7, 13, 12, 11};
        int[] value = {9, Small.leaf(1, 0, 0), Small.leaf(0, 9, 0), Small.rootOf(9, 0, 0, 0)};
        for (int n = 0; n < order.length; n++) {
            HashedStore s = Small.downAfter(n);
            for (int k = 0; k < order.length; k++) {
                Check.due("3: cell " + order[k] + " after " + n + " writes", s.peek(order[k]), k < n ? value[k] : 0);
            }
            Check.due("3: slot of the old area", s.slot(), 0);
            Check.due("3: the old root", s.root(), Small.rootOf(0, 0, 0, 0));
            Check.due("3: writes done", s.writes(), n);
        }
        HashedStore s = Small.store();
        s.crashAfter(4);
        Check.due("3: all writes done before the crash", s.write(0, 0, 9), 0);
        Check.due("3: not down by then", s.down(), false);
        Check.due("3: the next write is lost", s.write(0, 0, 9), HashedStore.DOWN);
    }

    private static void promise3WordsInOrder() {
        HashedStore s = Small.store();
        s.write(0, 1, 5);
        s.crashAfter(1);
        Check.due("3: two words differ, one is lost", s.write(1, 0, 6), HashedStore.DOWN);
        Check.due("3: the first one was written", s.peek(1), 5);
        Check.due("3: the second one was lost", s.peek(2), 0);
    }

    private static void promise3WriteCopiesWhatIsBeside() {
        HashedStore s = Small.store();
        s.tamper(2, -4);
        s.tamper(4, 123);
        s.tamper(5, 456);
        Check.due("3: nodes on the way are not trusted", s.write(0, 0, 9), 0);
        Check.due("3: a word of another block is copied as it is", s.peek(9), -4);
        Check.due("3: root made anew", s.peek(11), Small.rootOf(9, 0, 0, 0));
        Check.due("3: leaf made anew", s.peek(12), Small.leaf(0, 9, 0));
        Check.due("3: the corrupt block stays so", s.read(1, 0), HashedStore.CORRUPT);
    }

    private static void promise3WriteOfNothingNew() {
        HashedStore s = Small.store();
        s.write(0, 0, 9);
        s.write(0, 0, 9);
        int writes = s.writes();
        s.crashAfter(0);
        Check.due("3: no cell differs, so none is lost", s.write(0, 0, 9), 0);
        Check.due("3: nor counted", s.writes(), writes);
        Check.due("3: the area changes", s.slot(), 1);
    }

    private static void promise4Read() {
        HashedStore s = Small.store();
        s.write(0, 0, 4);
        s.write(1, 1, 6);
        int[] words = {4, 0, 0, 6};
        for (int c = 0; c < 4; c++) {
            Check.due("4: read", s.read(c / 2, c % 2), words[c]);
        }
        checkReadBad(s);
        s.tamper(1, 1);
        Check.due("4: BAD before CORRUPT", s.read(0, 2), HashedStore.BAD);
        Check.due("4: a word beside the tampered one", s.read(0, 0), HashedStore.CORRUPT);
        Check.due("4: the other block is right", s.read(1, 1), 6);
        s.tamper(1, 0);
        Check.due("4: right again", s.read(0, 0), 4);
        HashedStore down = Small.downAfter(3);
        checkReadBad(down);
        Check.due("4: down", down.read(0, 0), HashedStore.DOWN);
        down.tamper(0, 3);
        Check.due("4: DOWN before CORRUPT", down.read(0, 0), HashedStore.DOWN);
    }

    private static void checkReadBad(HashedStore s) {
        int[] wrong = {-1, 2, MIN, MAX};
        for (int w : wrong) {
            Check.due("4: no block " + w, s.read(w, 0), HashedStore.BAD);
            Check.due("4: no word " + w, s.read(0, w), HashedStore.BAD);
        }
    }

    private static void promise5Verify() {
        HashedStore s = Small.store();
        Check.due("5: block 0", s.verify(0), true);
        Check.due("5: block 1", s.verify(1), true);
        int[] wrong = {-1, 2, MIN, MAX};
        for (int w : wrong) {
            Check.due("5: no block " + w, s.verify(w), false);
        }
        s.tamper(5, 1);
        Check.due("5: its own stored leaf does not matter", s.verify(0), true);
        Check.due("5: the stored leaf beside it does", s.verify(1), false);
        s.tamper(5, Small.leaf(0, 0, 0));
        s.tamper(4, 1);
        Check.due("5: the stored root does not matter", s.verify(1), true);
        s.tamper(7, 1);
        Check.due("5: the other area does not matter", s.verify(0), true);
        Check.due("5: down", Small.downAfter(1).verify(0), false);
        checkWordBelowZero();
    }

    /** A block that hashes to the root, but has a word below 0: reached by trust in its root. */
    private static void checkWordBelowZero() {
        HashedStore s = new HashedStore(0, 1);
        s.crashAfter(0);
        s.write(0, 0, 3);
        s.tamper(2, -7);
        s.tamper(3, Model.mix(0, -7));
        Check.due("5: recover to the forged area", s.recover(Model.mix(0, -7)), 0);
        Check.due("5: hash fits, word below 0", s.verify(0), false);
        Check.due("5: hash fits, word below 0, read", s.read(0, 0), HashedStore.CORRUPT);
        Check.due("5: hash fits, word below 0, write", s.write(0, 0, 1), HashedStore.CORRUPT);
        Check.due("5: hash fits, word below 0, audit", s.audit(), 0);
    }

    private static void promise6Root() {
        HashedStore s = Small.store();
        Check.due("6: new", s.root(), Small.rootOf(0, 0, 0, 0));
        s.write(1, 1, 2);
        Check.due("6: written", s.root(), Small.rootOf(0, 0, 0, 2));
        s.tamper(11, 5);
        Check.due("6: kept aside from the disk", s.root(), Small.rootOf(0, 0, 0, 2));
        s.tamper(7, 5);
        s.write(0, 0, 1);
        Check.due("6: a refused write keeps it", s.root(), Small.rootOf(0, 0, 0, 2));
        s.tamper(7, 0);
        s.crashAfter(1);
        s.write(0, 0, 1);
        Check.due("6: is down", s.down(), true);
        Check.due("6: also when down", s.root(), Small.rootOf(0, 0, 0, 2));
        s.recover(1);
        Check.due("6: a mismatch keeps it", s.root(), Small.rootOf(0, 0, 0, 2));
    }

    private static void promise7Audit() {
        HashedStore s = new HashedStore(2, 1);
        Check.due("7: all right", s.audit(), HashedStore.NONE);
        s.tamper(3, 1);
        Check.due("7: the last block", s.audit(), 3);
        s.tamper(1, 1);
        Check.due("7: the least of two", s.audit(), 1);
        s.tamper(0, -1);
        Check.due("7: the first block", s.audit(), 0);
        s.format();
        s.tamper(5, 1);
        Check.due("7: the left son of the root spoils the right half", s.audit(), 2);
        s.format();
        s.tamper(4, 1);
        s.tamper(11, 1);
        Check.due("7: stored root and other area do not matter", s.audit(), HashedStore.NONE);
        Check.due("7: down", Small.downAfter(0).audit(), HashedStore.DOWN);
    }

    private static void promise8Tamper() {
        HashedStore s = Small.store();
        for (int addr = 0; addr < s.cells(); addr++) {
            s.tamper(addr, -100 - addr);
        }
        for (int addr = 0; addr < s.cells(); addr++) {
            Check.due("8: cell " + addr, s.peek(addr), -100 - addr);
        }
        Check.due("8: no write counted", s.writes(), 0);
        HashedStore untouched = Small.store();
        int[] wrong = {-1, 14, MIN, MAX};
        for (int addr : wrong) {
            untouched.tamper(addr, 1);
        }
        Small.checkFormatted("8: none such ", untouched);
        untouched.crashAfter(1);
        untouched.tamper(13, 1);
        Check.due("8: a tamper is no write for the crash", untouched.write(0, 0, 9), HashedStore.DOWN);
        Check.due("8: that write was done", untouched.peek(7), 9);
        untouched.tamper(7, 8);
        Check.due("8: also when down", untouched.peek(7), 8);
        Check.due("8: no write counted when down", untouched.writes(), 1);
    }

    private static void promise9CrashAfter() {
        HashedStore s = Small.store();
        s.crashAfter(0);
        s.crashAfter(-1);
        s.crashAfter(MIN);
        Check.due("9: below 0 leaves what was told", s.write(0, 0, 9), HashedStore.DOWN);
        s.crashAfter(50);
        Check.due("9: nothing when down", s.down(), true);
        s.recover(s.root());
        Check.due("9: no crash told when down", s.write(0, 0, 9), 0);

        HashedStore again = Small.store();
        again.crashAfter(0);
        again.crashAfter(4);
        Check.due("9: told again, anew", again.write(0, 0, 9), 0);
        again.crashAfter(3);
        Check.due("9: counted from the telling on", again.write(0, 0, 9), 0);
        Check.due("9: three cells differed", again.writes(), 7);
        again.crashAfter(MAX);
        Check.due("9: far away", again.write(0, 0, 8), 0);

        HashedStore across = Small.store();
        across.crashAfter(6);
        Check.due("9: over two calls", across.write(0, 0, 9), 0);
        Check.due("9: over two calls", across.write(1, 0, 9), HashedStore.DOWN);
        Check.due("9: six writes", across.writes(), 6);
        HashedStore none = Small.store();
        none.crashAfter(-1);
        Check.due("9: below 0 tells none", none.write(0, 0, 9), 0);
    }

    private static void promise10Recover() {
        HashedStore s = Small.store();
        int oldRoot = s.root();
        Check.due("10: BAD when up", s.recover(oldRoot), HashedStore.BAD);
        s.crashAfter(2);
        s.write(0, 0, 9);
        Check.due("10: neither", s.recover(1), HashedStore.MISMATCH);
        Check.due("10: stays down", s.down(), true);
        Check.due("10: the new root is not there yet", s.recover(Small.rootOf(9, 0, 0, 0)), HashedStore.MISMATCH);
        Check.due("10: the old root", s.recover(oldRoot), 0);
        Check.due("10: is up", s.down(), false);
        Check.due("10: slot", s.slot(), 0);
        Check.due("10: the old word", s.read(0, 0), 0);
        Check.due("10: BAD again", s.recover(oldRoot), HashedStore.BAD);
        Check.due("10: writes go on", s.write(0, 0, 9), 0);
        Check.due("10: two and two writes", s.writes(), 4);

        s.crashAfter(0);
        s.write(0, 0, 10);
        Check.due("10: the first area", s.recover(oldRoot), 0);
        Check.due("10: the first area is in use", s.slot(), 0);
        Check.due("10: its root is kept", s.root(), oldRoot);
        Check.due("10: no crash told", s.write(0, 0, 11), 0);
        s.write(0, 1, 1);
        s.crashAfter(0);
        s.write(0, 0, 12);
        Check.due("10: the second area", s.recover(Small.rootOf(11, 0, 0, 0)), 0);
        Check.due("10: the second area is in use", s.slot(), 1);
        Check.due("10: its root is kept", s.root(), Small.rootOf(11, 0, 0, 0));
        Check.due("10: its word", s.read(0, 1), 0);
    }

    private static void promise10RecoverTakesTheFirstArea() {
        HashedStore s = Small.store();
        s.write(0, 0, 9);
        s.write(0, 0, 9);
        s.write(0, 0, 9);
        Check.due("10: second area in use", s.slot(), 1);
        s.crashAfter(0);
        s.write(0, 0, 10);
        Check.due("10: both have the root", s.recover(s.root()), 0);
        Check.due("10: the first one is taken", s.slot(), 0);

        s.crashAfter(0);
        s.write(0, 0, 10);
        s.tamper(11, 42);
        Check.due("10: the stored root counts, as it is", s.recover(42), 0);
        Check.due("10: the tampered area is in use", s.slot(), 1);
        Check.due("10: its root is kept", s.root(), 42);
        Check.due("10: but no block comes to it", s.audit(), 0);
    }

    private static void promise11Cells() {
        for (int depth = 0; depth <= 5; depth++) {
            for (int words = 1; words <= 6; words++) {
                int blocks = 1 << depth;
                Check.due("11: cells " + depth + " " + words,
                    new HashedStore(depth, words).cells(), 2 * (blocks * words + 2 * blocks - 1));
            }
        }
        Check.due("11: also when down", Small.downAfter(0).cells(), 14);
    }

    private static void promise12Peek() {
        HashedStore s = Small.store();
        for (int addr = 0; addr < s.cells(); addr++) {
            s.tamper(addr, 50 + addr);
        }
        Check.due("12: first", s.peek(0), 50);
        Check.due("12: last", s.peek(13), 63);
        int[] wrong = {-1, 14, MIN, MAX};
        for (int addr : wrong) {
            Check.due("12: none such " + addr, s.peek(addr), 0);
        }
        Check.due("12: also when down", Small.downAfter(1).peek(7), 9);
    }

    private static void promise13Writes() {
        HashedStore s = Small.store();
        s.write(0, 0, 9);
        Check.due("13: a word and three nodes", s.writes(), 4);
        s.write(1, 1, 7);
        Check.due("13: two words and three nodes more", s.writes(), 9);
        s.write(0, 0, -1);
        s.write(2, 0, 1);
        s.read(0, 0);
        s.audit();
        s.tamper(13, 1);
        Check.due("13: only writes count", s.writes(), 9);
        s.format();
        Check.due("13: from format on", s.writes(), 0);
        HashedStore down = Small.downAfter(3);
        Check.due("13: the lost one is not counted", down.writes(), 3);
        down.write(0, 0, 9);
        Check.due("13: none when down", down.writes(), 3);
        down.recover(down.root());
        Check.due("13: recover leaves it", down.writes(), 3);
    }

    private static void promise14Slot() {
        HashedStore s = Small.store();
        for (int n = 0; n < 6; n++) {
            Check.due("14: slot after " + n, s.slot(), n % 2);
            s.write(n % 2, 0, 20 + n);
        }
        s.write(0, 0, 1);
        s.crashAfter(1);
        s.write(0, 0, 2);
        Check.due("14: also when down", s.slot(), 1);
        s.recover(3);
        Check.due("14: a mismatch keeps it", s.slot(), 1);
        s.format();
        Check.due("14: format", s.slot(), 0);
    }

    private static void promise15Down() {
        HashedStore s = Small.store();
        Check.due("15: new", s.down(), false);
        s.crashAfter(0);
        Check.due("15: a crash told is not yet one", s.down(), false);
        s.write(0, 0, 9);
        Check.due("15: a write was lost", s.down(), true);
        s.recover(1);
        Check.due("15: a mismatch", s.down(), true);
        s.recover(s.root());
        Check.due("15: recovered", s.down(), false);
        s.crashAfter(0);
        s.write(0, 0, 9);
        s.format();
        Check.due("15: formatted", s.down(), false);
    }
}
