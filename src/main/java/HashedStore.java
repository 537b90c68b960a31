import java.util.Arrays;

/**
 * Blocks of words under a tree of hashes on one raw disk that anybody may write to; the root is
 * kept aside, and a write makes the area that is not in use whole before it turns to it.
 */
public final class HashedStore {
    public static final int NONE = -1;
    public static final int BAD = -2;
    public static final int CORRUPT = -3;
    public static final int DOWN = -4;
    public static final int MISMATCH = -5;

    private static final int DONE = 0;
    private static final int MAX_DEPTH = 5;
    private static final int MAX_BLOCK_WORDS = 6;
    private static final int AREAS = 2;
    private static final int ROOT_NODE = 1;
    private static final int NO_CRASH = -1;

    private final int treeDepth;
    private final int blockCount;
    private final int wordsPerBlock;
    private final int areaWords;
    private final int areaCells;
    private final int[] disk;
    // What the other area is to become; one row for all calls, so that a write makes no object.
    private final int[] plan;

    private int areaInUse;
    private int keptRoot;
    private int writeCount;
    private int writesUntilCrash;
    private boolean isDown;

    public HashedStore(int depth, int blockWords) {
        treeDepth = Math.max(0, Math.min(depth, MAX_DEPTH));
        wordsPerBlock = Math.max(1, Math.min(blockWords, MAX_BLOCK_WORDS));
        blockCount = 1 << treeDepth;
        areaWords = blockCount * wordsPerBlock;
        areaCells = areaWords + 2 * blockCount - 1;
        disk = new int[AREAS * areaCells];
        plan = new int[areaCells];
        startAnew();
    }

    public int format() {
        startAnew();
        return DONE;
    }

    public int write(int b, int i, int word) {
        if (!hasWord(b, i) || word < 0) {
            return BAD;
        }
        if (isDown) {
            return DOWN;
        }
        if (!isRight(b)) {
            return CORRUPT;
        }
        planWord(b, i, word);
        int otherArea = 1 - areaInUse;
        if (!carryOutPlan(areaStart(otherArea))) {
            return DOWN;
        }
        turnTo(otherArea, plan[nodeCell(ROOT_NODE)]);
        return DONE;
    }

    public int read(int b, int i) {
        if (!hasWord(b, i)) {
            return BAD;
        }
        if (isDown) {
            return DOWN;
        }
        if (!isRight(b)) {
            return CORRUPT;
        }
        return disk[areaStart(areaInUse) + wordCell(b, i)];
    }

    public boolean verify(int b) {
        return hasBlock(b) && !isDown && isRight(b);
    }

    public int root() {
        return keptRoot;
    }

    public int audit() {
        if (isDown) {
            return DOWN;
        }
        for (int b = 0; b < blockCount; b++) {
            if (!isRight(b)) {
                return b;
            }
        }
        return NONE;
    }

    public void tamper(int addr, int word) {
        if (hasCell(addr)) {
            disk[addr] = word;
        }
    }

    public void crashAfter(int writes) {
        if (writes >= 0 && !isDown) {
            writesUntilCrash = writes;
        }
    }

    public int recover(int trustedRoot) {
        if (!isDown) {
            return BAD;
        }
        for (int area = 0; area < AREAS; area++) {
            if (disk[areaStart(area) + nodeCell(ROOT_NODE)] == trustedRoot) {
                turnTo(area, trustedRoot);
                comeUp();
                return DONE;
            }
        }
        return MISMATCH;
    }

    public int cells() {
        return disk.length;
    }

    public int peek(int addr) {
        return hasCell(addr) ? disk[addr] : 0;
    }

    public int writes() {
        return writeCount;
    }

    public int slot() {
        return areaInUse;
    }

    public boolean down() {
        return isDown;
    }

    private void startAnew() {
        Arrays.fill(disk, 0);
        makeAllNodesOfFirstArea();
        turnTo(0, disk[nodeCell(ROOT_NODE)]);
        writeCount = 0;
        comeUp();
    }

    private void makeAllNodesOfFirstArea() {
        for (int b = 0; b < blockCount; b++) {
            disk[nodeCell(leafOf(b))] = blockHash(disk, 0, b);
        }
        for (int node = blockCount - 1; node >= ROOT_NODE; node--) {
            disk[nodeCell(node)] = hashOfSons(disk, node);
        }
    }

    private void turnTo(int area, int newRoot) {
        areaInUse = area;
        keptRoot = newRoot;
    }

    private void comeUp() {
        isDown = false;
        writesUntilCrash = NO_CRASH;
    }

    private boolean hasBlock(int b) {
        return b >= 0 && b < blockCount;
    }

    private boolean hasWord(int b, int i) {
        return hasBlock(b) && i >= 0 && i < wordsPerBlock;
    }

    private boolean hasCell(int addr) {
        return addr >= 0 && addr < disk.length;
    }

    private int areaStart(int area) {
        return area * areaCells;
    }

    private int wordCell(int b, int i) {
        return b * wordsPerBlock + i;
    }

    private int nodeCell(int node) {
        return areaWords + node - 1;
    }

    private int leafOf(int b) {
        return blockCount + b;
    }

    private boolean isRight(int b) {
        int start = areaStart(areaInUse);
        return !hasWordBelowZero(start, b) && rootByWayOf(start, b) == keptRoot;
    }

    private boolean hasWordBelowZero(int start, int b) {
        for (int i = 0; i < wordsPerBlock; i++) {
            if (disk[start + wordCell(b, i)] < 0) {
                return true;
            }
        }
        return false;
    }

    // The stored nodes on the way itself are passed over: only those beside it may be trusted,
    // and only because the kept root vouches for what they come to.
    private int rootByWayOf(int start, int b) {
        int hash = blockHash(disk, start, b);
        int node = leafOf(b);
        for (int level = 0; level < treeDepth; level++) {
            boolean isLeftSon = node % 2 == 0;
            int beside = disk[start + nodeCell(isLeftSon ? node + 1 : node - 1)];
            hash = isLeftSon ? mix(hash, beside) : mix(beside, hash);
            node = node / 2;
        }
        return hash;
    }

    private void planWord(int b, int i, int word) {
        System.arraycopy(disk, areaStart(areaInUse), plan, 0, areaCells);
        plan[wordCell(b, i)] = word;
        int node = leafOf(b);
        plan[nodeCell(node)] = blockHash(plan, 0, b);
        for (int level = 0; level < treeDepth; level++) {
            node = node / 2;
            plan[nodeCell(node)] = hashOfSons(plan, node);
        }
    }

    // The root goes last, so that an area that shows the new root is whole.
    private boolean carryOutPlan(int start) {
        for (int cell = 0; cell < areaWords; cell++) {
            if (!bringToPlan(start, cell)) {
                return false;
            }
        }
        for (int cell = areaCells - 1; cell >= areaWords; cell--) {
            if (!bringToPlan(start, cell)) {
                return false;
            }
        }
        return true;
    }

    private boolean bringToPlan(int start, int cell) {
        return disk[start + cell] == plan[cell] || putCell(start + cell, plan[cell]);
    }

    private boolean putCell(int addr, int word) {
        if (writesUntilCrash == 0) {
            isDown = true;
            return false;
        }
        if (writesUntilCrash != NO_CRASH) {
            writesUntilCrash--;
        }
        disk[addr] = word;
        writeCount++;
        return true;
    }

    private int blockHash(int[] row, int start, int b) {
        int hash = b;
        for (int i = 0; i < wordsPerBlock; i++) {
            hash = mix(hash, row[start + wordCell(b, i)]);
        }
        return hash;
    }

    // The row begins with the area: this serves the first area of the disk, and the plan.
    private int hashOfSons(int[] row, int node) {
        return mix(row[nodeCell(2 * node)], row[nodeCell(2 * node + 1)]);
    }

    private static int mix(int a, int b) {
        int x = (a ^ ((b << 13) | (b >>> 19))) * 0x2C1B3C6D;
        x = x ^ (x >>> 15);
        x = (x + b) * 0x297A2D39;
        return x ^ (x >>> 14);
    }
}
