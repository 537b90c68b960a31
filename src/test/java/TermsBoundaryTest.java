import java.math.BigInteger;

/** The section 'Terms': one test for each sentence that names a boundary case. */
public final class TermsBoundaryTest {
    private static final int MIN = Integer.MIN_VALUE;
    private static final int MAX = Integer.MAX_VALUE;
    private static final BigInteger INTS = BigInteger.ONE.shiftLeft(32);

    private TermsBoundaryTest() {
    }

    public static void main(String[] args) {
        for (int depth = 0; depth <= 5; depth++) {
            for (int words = 1; words <= 6; words++) {
                blocksOfWords(depth, words);
                twoAreasOneBehindTheOther(depth, words);
                firstAndLastWord(depth, words);
                firstAndLastNode(depth, words);
            }
        }
        leafThatIsTheRoot();
        mixRunsOver();
        blockHashBeginsWithItsNumber();
        blockHashGoesInOrder();
        nodesAreMixedLeftToRight();
        rootIsKeptAside();
        rightHasNoWordBelowZero();
        wordsOfTheAreaInUseAlone();
        rightGoesByTheNodesBesideItsWay();
        eachCellIsOneWrite();
        writeBehindTheToldOnesIsLost();
        toldFromThenOn();
        staysDownUntilRecover();
        Check.finish();
    }

    private static void blocksOfWords(int depth, int words) {
        Check.sentence("Terms", "There are N = 2 to the depth BLOCKS of W WORDS");
        HashedStore s = new HashedStore(depth, words);
        int blocks = 1 << depth;
        String name = "store(" + depth + ", " + words + ") ";
        for (int b = 0; b < blocks; b++) {
            Check.due(name + "block " + b, s.verify(b), true);
            Check.due(name + "last word of block " + b, s.read(b, words - 1), 0);
            Check.due(name + "behind it", s.read(b, words), HashedStore.BAD);
        }
        Check.due(name + "block behind the last", s.verify(blocks), false);
        Check.due(name + "its word", s.read(blocks, 0), HashedStore.BAD);
    }

    private static void twoAreasOneBehindTheOther(int depth, int words) {
        Check.sentence("Terms",
            "THE DISK has two AREAS, one behind the other, of N * W + 2 * N - 1 cells (ints)");
        HashedStore s = new HashedStore(depth, words);
        String name = "store(" + depth + ", " + words + ") ";
        int areaCells = areaCells(depth, words);
        Check.due(name + "cells", s.cells(), 2 * areaCells);
        s.write(0, 0, 5);
        Check.due(name + "first cell of the first area", s.peek(0), 0);
        Check.due(name + "first cell of the second area", s.peek(areaCells), 5);
        s.tamper(2 * areaCells - 1, MIN);
        Check.due(name + "last cell", s.peek(2 * areaCells - 1), MIN);
        s.tamper(2 * areaCells, 7);
        Check.due(name + "behind the last cell", s.peek(2 * areaCells), 0);
    }

    private static void firstAndLastWord(int depth, int words) {
        Check.sentence("Terms", "word i of block b is cell b * W + i of an area");
        HashedStore s = new HashedStore(depth, words);
        int last = (1 << depth) - 1;
        String name = "store(" + depth + ", " + words + ") ";
        s.write(last, words - 1, MAX);
        s.write(0, 0, MAX - 1);
        Check.due(name + "second area, last word", s.peek(areaCells(depth, words) + last * words + words - 1), MAX);
        boolean one = last == 0 && words == 1;
        Check.due(name + "first area, last word", s.peek(last * words + words - 1), one ? MAX - 1 : MAX);
        Check.due(name + "first area, first word", s.peek(0), MAX - 1);
    }

    private static void firstAndLastNode(int depth, int words) {
        Check.sentence("Terms", "NODE k (1 .. 2 * N - 1) is cell N * W + k - 1");
        HashedStore s = new HashedStore(depth, words);
        Model m = new Model(depth, words);
        int blocks = 1 << depth;
        String name = "store(" + depth + ", " + words + ") ";
        s.write(blocks - 1, words - 1, 3);
        m.write(blocks - 1, words - 1, 3);
        int firstNode = areaCells(depth, words) + blocks * words;
        Check.due(name + "first node, the root", s.peek(firstNode), s.root());
        Check.due(name + "last node, the last leaf", s.peek(s.cells() - 1), m.blockHash(m.area[1], blocks - 1));
        for (int k = 1; k < 2 * blocks; k++) {
            Check.due(name + "node " + k, s.peek(firstNode + k - 1), m.node(m.area[1], k));
        }
    }

    private static void leafThatIsTheRoot() {
        Check.sentence("Terms", "Node N + b is the leaf of block b, others have the sons 2 * k and 2 * k + 1;"
            + " node 1 is the root");
        HashedStore s = new HashedStore(0, 2);
        s.write(0, 1, 6);
        int leaf = Small.leaf(0, 0, 6);
        Check.due("with one block, its leaf", s.peek(5), leaf);
        Check.due("is the root", s.root(), leaf);
        s.tamper(5, leaf + 1);
        Check.due("and has none beside it", s.read(0, 1), 6);
        s.tamper(4, 7);
        Check.due("a word makes it wrong", s.read(0, 1), HashedStore.CORRUPT);
    }

    /** MIX by numbers without a bound, taken to 32 bits at each step. */
    private static int mixUnbounded(int a, int b) {
        BigInteger wideB = BigInteger.valueOf(b).mod(INTS);
        BigInteger turned = wideB.shiftLeft(13).mod(INTS).add(wideB.shiftRight(19));
        BigInteger x = BigInteger.valueOf(a).mod(INTS).xor(turned).multiply(BigInteger.valueOf(0x2C1B3C6D)).mod(INTS);
        x = x.xor(x.shiftRight(15));
        x = x.add(wideB).multiply(BigInteger.valueOf(0x297A2D39)).mod(INTS);
        return x.xor(x.shiftRight(14)).intValue();
    }

    private static void mixRunsOver() {
        Check.sentence("Terms", "x ^ (x >>> 14) (ints that run over)");
        int[] edges = {0, 1, 2, 1 << 12, 1 << 13, 1 << 18, 1 << 19, (1 << 19) - 1, 1 << 30, MAX - 1, MAX};
        boolean sawBelowZero = false;
        for (int word : edges) {
            HashedStore one = new HashedStore(0, 1);
            one.write(0, 0, word);
            Check.due("hash of word " + word, one.root(), mixUnbounded(0, word));
            HashedStore two = new HashedStore(1, 1);
            two.write(0, 0, word);
            two.write(1, 0, MAX - word);
            int left = mixUnbounded(0, word);
            int right = mixUnbounded(1, MAX - word);
            sawBelowZero |= left < 0 && right < 0;
            Check.due("hash of nodes " + left + " " + right, two.root(), mixUnbounded(left, right));
            Check.due("and both are right", two.audit(), HashedStore.NONE);
        }
        Check.due("nodes below 0 were among them", sawBelowZero, true);
    }

    private static void blockHashBeginsWithItsNumber() {
        Check.sentence("Terms", "The HASH of a block b: h = b");
        HashedStore s = new HashedStore(5, 1);
        for (int b = 0; b < 32; b++) {
            Check.due("leaf of block " + b, s.peek(32 + 31 + b), Model.mix(b, 0));
        }
    }

    private static void blockHashGoesInOrder() {
        Check.sentence("Terms", "for each of its words, in order, h = MIX ( h, word )");
        HashedStore s = new HashedStore(0, 6);
        int hash = 0;
        for (int i = 0; i < 6; i++) {
            s.write(0, i, i * 3);
            hash = Model.mix(hash, i * 3);
        }
        Check.due("six words", s.root(), hash);
        HashedStore turned = new HashedStore(0, 2);
        turned.write(0, 0, 2);
        turned.write(0, 1, 1);
        Check.due("2 before 1", turned.root(), Model.mix(Model.mix(0, 2), 1));
    }

    private static void nodesAreMixedLeftToRight() {
        Check.sentence("Terms", "That of two nodes is MIX ( the left one, the right one )");
        HashedStore s = Small.store();
        s.write(0, 0, 3);
        s.write(1, 0, 4);
        Check.due("root by the left one's way and the right one's", s.root(),
            Model.mix(Small.leaf(0, 3, 0), Small.leaf(1, 4, 0)));
        s.write(0, 1, 5);
        Check.due("root behind a write to the left one", s.root(),
            Model.mix(Small.leaf(0, 3, 5), Small.leaf(1, 4, 0)));
    }

    private static void rootIsKeptAside() {
        Check.sentence("Terms", "IN USE is one of the areas; THE ROOT is kept aside");
        HashedStore s = Small.store();
        int root = s.root();
        for (int addr = 0; addr < s.cells(); addr++) {
            s.tamper(addr, -9);
        }
        Check.due("with every cell spoiled", s.root(), root);
        Check.due("and the area in use", s.slot(), 0);
    }

    /** A store of one block whose area in use has just these words, and the root that they hash to. */
    private static HashedStore forged(int[] words) {
        HashedStore s = new HashedStore(0, words.length);
        s.crashAfter(0);
        s.write(0, 0, 1);
        int root = 0;
        for (int i = 0; i < words.length; i++) {
            s.tamper(i, words[i]);
            root = Model.mix(root, words[i]);
        }
        s.tamper(words.length, root);
        Check.due("recover to what was forged", s.recover(root), 0);
        return s;
    }

    private static void rightHasNoWordBelowZero() {
        Check.sentence("Terms", "A block is RIGHT when none of its words (in the area in use) is below 0");
        int[] values = {MIN, -1, 0, MAX};
        for (int i = 0; i < 6; i++) {
            for (int value : values) {
                int[] words = {1, 1, 1, 1, 1, 1};
                words[i] = value;
                HashedStore s = forged(words);
                String name = "word " + i + " is " + value + ": ";
                Check.due(name + "verify", s.verify(0), value >= 0);
                Check.due(name + "read", s.read(0, i), value >= 0 ? value : HashedStore.CORRUPT);
                Check.due(name + "audit", s.audit(), value >= 0 ? HashedStore.NONE : 0);
                Check.due(name + "write", s.write(0, i, 2), value >= 0 ? 0 : HashedStore.CORRUPT);
            }
        }
    }

    private static void wordsOfTheAreaInUseAlone() {
        Check.sentence("Terms", "none of its words (in the area in use) is below 0");
        HashedStore s = Small.store();
        s.tamper(7, -1);
        Check.due("below 0 in the second area, the first in use", s.verify(0), true);
        Check.due("write over it", s.write(0, 1, 4), 0);
        s.tamper(0, MIN);
        Check.due("below 0 in the first area, the second in use", s.verify(0), true);
    }

    private static boolean isBesideWay(int node, int leaf) {
        for (int onWay = leaf; onWay > 1; onWay /= 2) {
            if (node == (onWay ^ 1)) {
                return true;
            }
        }
        return false;
    }

    private static void rightGoesByTheNodesBesideItsWay() {
        Check.sentence("Terms", "its hash, mixed up with the stored nodes beside its way"
            + " (MIX ( it, right neighbour ) or MIX ( left neighbour, it )), comes to the root");
        for (int k = 1; k < 64; k++) {
            spoilNode(new HashedStore(5, 1), 0, k);
            HashedStore second = new HashedStore(5, 1);
            second.write(7, 0, 7);
            spoilNode(second, 1, k);
        }
    }

    private static void spoilNode(HashedStore s, int area, int k) {
        int addr = area * areaCells(5, 1) + 32 + k - 1;
        int old = s.peek(addr);
        s.tamper(addr, old + 1);
        for (int b = 0; b < 32; b++) {
            Check.due("node " + k + " of area " + area + " spoiled, block " + b,
                s.verify(b), !isBesideWay(k, 32 + b));
        }
        s.tamper(addr, old);
        Check.due("node " + k + " as it was", s.audit(), HashedStore.NONE);
    }

    /** All seven cells of the second area are such that the write of 9 to word 0 of block 0 changes them. */
    private static HashedStore allCellsDiffer() {
        HashedStore s = Small.store();
        for (int addr = 7; addr < 14; addr++) {
            s.tamper(addr, -3);
        }
        return s;
    }

    private static void eachCellIsOneWrite() {
        Check.sentence("Terms", "A WRITING of cells counts as one WRITE each");
        HashedStore all = allCellsDiffer();
        all.write(0, 0, 9);
        Check.due("all cells differ", all.writes(), 7);
        all.write(0, 0, 9);
        Check.due("a word, a leaf and the root differ", all.writes(), 10);
        all.write(0, 0, 9);
        Check.due("no cell differs", all.writes(), 10);
    }

    private static void writeBehindTheToldOnesIsLost() {
        Check.sentence("Terms",
            "With a crash told after n writes, the write n + 1 from then on is lost, and the store is DOWN");
        int[] order = {7, 8, 9, 10, 13, 12, 11};
        for (int n = 0; n < 7; n++) {
            HashedStore s = allCellsDiffer();
            s.crashAfter(n);
            Check.due("of 7 writes, a crash after " + n, s.write(0, 0, 9), HashedStore.DOWN);
            Check.due("down after " + n, s.down(), true);
            for (int k = 0; k < 7; k++) {
                Check.due("write " + (k + 1) + " is done after " + n, s.peek(order[k]) != -3, k < n);
            }
        }
        HashedStore s = allCellsDiffer();
        s.crashAfter(7);
        Check.due("of 7 writes, a crash after 7", s.write(0, 0, 9), 0);
        Check.due("not down yet", s.down(), false);
        Check.due("the write 8 is lost", s.write(0, 0, 9), HashedStore.DOWN);
        Check.due("the write 8 is not on the disk", s.peek(0), 0);
    }

    private static void toldFromThenOn() {
        Check.sentence("Terms", "the write n + 1 from then on is lost");
        HashedStore s = allCellsDiffer();
        s.write(0, 0, 9);
        s.crashAfter(3);
        Check.due("seven writes before it are not of them", s.write(0, 0, 9), 0);
        Check.due("ten writes", s.writes(), 10);
        Check.due("none left", s.write(0, 0, 8), HashedStore.DOWN);
    }

    private static void staysDownUntilRecover() {
        Check.sentence("Terms", "It stays so until recover()");
        HashedStore s = Small.downAfter(2);
        Seen seen = new Seen(s);
        s.write(0, 0, 9);
        s.read(0, 0);
        s.verify(0);
        s.audit();
        s.crashAfter(0);
        s.crashAfter(MAX);
        s.recover(s.root() + 1);
        s.tamper(-1, 5);
        seen.checkSame("any other call", s);
        Check.due("recover", s.recover(s.root()), 0);
        Check.due("down behind it", s.down(), false);
    }

    private static int areaCells(int depth, int words) {
        return (1 << depth) * words + 2 * (1 << depth) - 1;
    }
}
