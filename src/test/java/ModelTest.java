import java.util.Random;

/**
 * Seeded runs of calls, the program beside the model. What the document answers for ends with an
 * object's 512th call, too few to look at a large disk behind a run: so each run is made again, on
 * a new object, for each part of the disk.
 */
public final class ModelTest {
    private static final int SEEDS = 24;
    private static final int CALLS = 512;
    private static final int PART = 96;
    // A step makes at most two calls, and the look behind it six.
    private static final int CALLS_PER_STEP = 8;
    private static final int MOST_STEPS = (CALLS - PART) / CALLS_PER_STEP;

    private final Random random;
    private final String name;
    private final HashedStore store;
    private final Model model;
    private int lastRoot;

    private ModelTest(int depth, int words, int seed) {
        random = new Random(seed);
        name = "store(" + depth + ", " + words + ") seed " + seed;
        store = new HashedStore(depth, words);
        model = new Model(depth, words);
        lastRoot = model.root;
    }

    public static void main(String[] args) {
        for (int depth = -1; depth <= 6; depth++) {
            for (int words = 0; words <= 7; words++) {
                for (int n = 0; n < SEEDS; n++) {
                    runForEachPart(depth, words, n * 1000 + depth * 10 + words);
                }
            }
        }
        Check.finish();
    }

    private static void runForEachPart(int depth, int words, int seed) {
        int cells = new Model(depth, words).cells();
        for (int from = 0; from < cells; from += PART) {
            ModelTest test = new ModelTest(depth, words, seed);
            test.run();
            test.comparePart(from, Math.min(from + PART, cells));
        }
    }

    private void run() {
        int steps = random.nextInt(MOST_STEPS + 1);
        for (int n = 0; n < steps; n++) {
            String what = name + " step " + n + " ";
            int rootBefore = model.root;
            step(what);
            if (model.root != rootBefore) {
                lastRoot = rootBefore;
            }
            look(what);
        }
    }

    private void step(String what) {
        int kind = random.nextInt(100);
        if (kind < 45) {
            stepWrite(what);
        } else if (kind < 60) {
            int b = index(model.blocks);
            int i = index(model.words);
            Check.due(what + "read", store.read(b, i), model.read(b, i));
        } else if (kind < 75) {
            stepTamper(what);
        } else if (kind < 85) {
            int n = random.nextInt(3) == 0 ? random.nextInt(4) - 1 : random.nextInt(model.cells());
            store.crashAfter(n);
            model.crashAfter(n);
        } else if (kind < 97) {
            int trusted = someRoot();
            Check.due(what + "recover", store.recover(trusted), model.recover(trusted));
        } else {
            Check.due(what + "format", store.format(), model.format());
        }
    }

    private void stepWrite(String what) {
        int b = index(model.blocks);
        int i = index(model.words);
        int word = random.nextInt(20) == 0 ? -1 - random.nextInt(5) : random.nextInt(3) * 7;
        Check.due(what + "write", store.write(b, i, word), model.write(b, i, word));
    }

    private void stepTamper(String what) {
        int addr = index(model.cells());
        int word = random.nextInt(2) == 0 ? random.nextInt() : model.peek(random.nextInt(model.cells()));
        int old = model.peek(addr);
        store.tamper(addr, word);
        model.tamper(addr, word);
        // Most changes are taken back at once, so that a run is not corrupt throughout.
        if (random.nextInt(3) != 0) {
            store.tamper(addr, old);
            model.tamper(addr, old);
        } else {
            Check.due(what + "peek(" + addr + ")", store.peek(addr), model.peek(addr));
        }
    }

    private int index(int bound) {
        return random.nextInt(15) == 0 ? (random.nextBoolean() ? -1 : bound) : random.nextInt(bound);
    }

    private int someRoot() {
        switch (random.nextInt(4)) {
            case 0: return lastRoot;
            case 1: return model.node(model.area[0], 1);
            case 2: return model.node(model.area[1], 1);
            default: return model.root;
        }
    }

    private void look(String what) {
        int b = index(model.blocks);
        Check.due(what + "verify(" + b + ")", store.verify(b), model.verify(b));
        Check.due(what + "audit", store.audit(), model.audit());
        Check.due(what + "root", store.root(), model.root);
        Check.due(what + "slot", store.slot(), model.inUse);
        Check.due(what + "writes", store.writes(), model.writes);
        Check.due(what + "down", store.down(), model.down);
    }

    private void comparePart(int from, int to) {
        for (int addr = from; addr < to; addr++) {
            Check.due(name + " at its end, peek(" + addr + ")", store.peek(addr), model.peek(addr));
        }
    }
}
