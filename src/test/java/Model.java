import java.util.ArrayList;
import java.util.List;

/**
 * The document's words once more, held otherwise than in the program: areas are apart, hashes are
 * made by recursion, and a write first lists its single cell writes.
 */
final class Model {
    final int blocks;
    final int words;
    final int[][] area;
    int inUse;
    int root;
    int writes;
    boolean crashTold;
    int crashAt;
    boolean down;

    Model(int depth, int blockWords) {
        blocks = (int) Math.pow(2, depth < 0 ? 0 : depth > 5 ? 5 : depth);
        words = blockWords < 1 ? 1 : blockWords > 6 ? 6 : blockWords;
        area = new int[2][blocks * words + 2 * blocks - 1];
        format();
    }

    static int mix(int a, int b) {
        int x = (a ^ Integer.rotateLeft(b, 13)) * 0x2C1B3C6D;
        x ^= x >>> 15;
        x += b;
        x *= 0x297A2D39;
        return x ^ (x >>> 14);
    }

    int node(int[] cells, int k) {
        return cells[blocks * words + k - 1];
    }

    int blockHash(int[] cells, int b) {
        int h = b;
        for (int i = 0; i < words; i++) {
            h = mix(h, cells[b * words + i]);
        }
        return h;
    }

    /** The hash of node k, where only the nodes on the way of block b are made anew. */
    private int nodeOnWay(int[] cells, int k, int b) {
        if (k == blocks + b) {
            return blockHash(cells, b);
        }
        int onWay = blocks + b;
        while (onWay / 2 != k) {
            onWay /= 2;
        }
        int made = nodeOnWay(cells, onWay, b);
        return onWay == 2 * k ? mix(made, node(cells, 2 * k + 1)) : mix(node(cells, 2 * k), made);
    }

    private int nodeMadeWhole(int[] cells, int k) {
        return k >= blocks
            ? blockHash(cells, k - blocks)
            : mix(nodeMadeWhole(cells, 2 * k), nodeMadeWhole(cells, 2 * k + 1));
    }

    int format() {
        area[0] = new int[area[0].length];
        area[1] = new int[area[1].length];
        for (int k = 1; k < 2 * blocks; k++) {
            area[0][blocks * words + k - 1] = nodeMadeWhole(area[0], k);
        }
        inUse = 0;
        root = node(area[0], 1);
        writes = 0;
        crashTold = false;
        down = false;
        return 0;
    }

    boolean isBlock(int b) {
        return 0 <= b && b < blocks;
    }

    boolean isWord(int b, int i) {
        return isBlock(b) && 0 <= i && i < words;
    }

    boolean right(int b) {
        for (int i = 0; i < words; i++) {
            if (area[inUse][b * words + i] < 0) {
                return false;
            }
        }
        return nodeOnWay(area[inUse], 1, b) == root;
    }

    int write(int b, int i, int word) {
        if (!isWord(b, i) || word < 0) {
            return -2;
        }
        if (down) {
            return -4;
        }
        if (!right(b)) {
            return -3;
        }
        int[] goal = area[inUse].clone();
        goal[b * words + i] = word;
        for (int k = blocks + b; k >= 1; k /= 2) {
            goal[blocks * words + k - 1] = nodeOnWay(goal, k, b);
        }
        int[] other = area[1 - inUse];
        for (int c : cellsThatDiffer(other, goal)) {
            if (crashTold && writes == crashAt) {
                down = true;
                return -4;
            }
            other[c] = goal[c];
            writes++;
        }
        inUse = 1 - inUse;
        root = node(goal, 1);
        return 0;
    }

    private List<Integer> cellsThatDiffer(int[] other, int[] goal) {
        List<Integer> order = new ArrayList<>();
        for (int c = 0; c < blocks * words; c++) {
            order.add(c);
        }
        for (int k = 2 * blocks - 1; k >= 1; k--) {
            order.add(blocks * words + k - 1);
        }
        order.removeIf(c -> other[c] == goal[c]);
        return order;
    }

    int read(int b, int i) {
        return !isWord(b, i) ? -2 : down ? -4 : !right(b) ? -3 : area[inUse][b * words + i];
    }

    boolean verify(int b) {
        return isBlock(b) && !down && right(b);
    }

    int audit() {
        if (down) {
            return -4;
        }
        int least = -1;
        for (int b = blocks - 1; b >= 0; b--) {
            least = right(b) ? least : b;
        }
        return least;
    }

    int cells() {
        return area[0].length + area[1].length;
    }

    void tamper(int addr, int word) {
        if (0 <= addr && addr < cells()) {
            area[addr / area[0].length][addr % area[0].length] = word;
        }
    }

    int peek(int addr) {
        return 0 <= addr && addr < cells() ? area[addr / area[0].length][addr % area[0].length] : 0;
    }

    void crashAfter(int n) {
        if (n >= 0 && !down) {
            crashTold = true;
            crashAt = writes + n;
        }
    }

    int recover(int trusted) {
        if (!down) {
            return -2;
        }
        int found = node(area[0], 1) == trusted ? 0 : node(area[1], 1) == trusted ? 1 : -1;
        if (found < 0) {
            return -5;
        }
        inUse = found;
        root = trusted;
        down = false;
        crashTold = false;
        return 0;
    }
}
