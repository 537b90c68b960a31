import java.util.Random;

/**
 * Long runs of calls, the program beside the model, the whole disk compared behind each call. The
 * document leaves free what is answered after 512 calls; the comparing goes beyond that, since the
 * program counts no calls.
 */
public final class ModelTest {
    private static final int RUNS_PER_SHAPE = 6;
    private static final int CALLS = 512;

    private final Random random;
    private final String name;
    private final HashedStore store;
    private final Model model;
    private int lastRoot;

    private ModelTest(int depth, int words, int seed) {
        random = new Random(seed);
        name = "store(" + depth + ", " + words + ") seed " + seed;
        store = new HashedStore(depth, words);
        model = new Model(depth, words);
        lastRoot = model.root;
    }

    public static void main(String[] args) {
        for (int depth = -1; depth <= 6; depth++) {
            for (int words = 0; words <= 7; words++) {
                for (int seed = 0; seed < RUNS_PER_SHAPE; seed++) {
                    new ModelTest(depth, words, seed * 1000 + depth * 10 + words).run();
                }
            }
        }
        Check.finish();
    }

    private void run() {
        compareState(name + " new");
        for (int call = 0; call < CALLS; call++) {
            String what = name + " call " + call + " ";
            int rootBefore = model.root;
            step(what);
            if (model.root != rootBefore) {
                lastRoot = rootBefore;
            }
            compareState(what);
        }
    }

    private void step(String what) {
        int kind = random.nextInt(100);
        if (kind < 45) {
            stepWrite(what);
        } else if (kind < 65) {
            int b = index(model.blocks);
            int i = index(model.words);
            Check.due(what + "read", store.read(b, i), model.read(b, i));
        } else if (kind < 75) {
            stepTamper();
        } else if (kind < 85) {
            int n = random.nextInt(3) == 0 ? random.nextInt(4) - 1 : random.nextInt(model.cells());
            store.crashAfter(n);
            model.crashAfter(n);
        } else if (kind < 97) {
            int trusted = someRoot();
            Check.due(what + "recover", store.recover(trusted), model.recover(trusted));
        } else {
            Check.due(what + "format", store.format(), model.format());
        }
    }

    private void stepWrite(String what) {
        int b = index(model.blocks);
        int i = index(model.words);
        int word = random.nextInt(20) == 0 ? -1 - random.nextInt(5) : random.nextInt(3) * 7;
        Check.due(what + "write", store.write(b, i, word), model.write(b, i, word));
    }

    private void stepTamper() {
        int addr = index(model.cells());
        int word = random.nextInt(2) == 0 ? random.nextInt() : model.peek(random.nextInt(model.cells()));
        // Half of the changes are taken back at once, so that a run is not corrupt throughout.
        int old = model.peek(addr);
        store.tamper(addr, word);
        model.tamper(addr, word);
        if (random.nextInt(2) == 0) {
            compareState(name + " tampered");
            store.tamper(addr, old);
            model.tamper(addr, old);
        }
    }

    private int index(int bound) {
        return random.nextInt(15) == 0 ? (random.nextBoolean() ? -1 : bound) : random.nextInt(bound);
    }

    private int someRoot() {
        switch (random.nextInt(4)) {
            case 0: return lastRoot;
            case 1: return model.node(model.area[0], 1);
            case 2: return model.node(model.area[1], 1);
            default: return model.root;
        }
    }

    private void compareState(String what) {
        Check.due(what + " cells", store.cells(), model.cells());
        for (int addr = -1; addr <= model.cells(); addr++) {
            Check.due(what + " peek(" + addr + ")", store.peek(addr), model.peek(addr));
        }
        for (int b = -1; b <= model.blocks; b++) {
            Check.due(what + " verify(" + b + ")", store.verify(b), model.verify(b));
        }
        Check.due(what + " audit", store.audit(), model.audit());
        Check.due(what + " root", store.root(), model.root);
        Check.due(what + " slot", store.slot(), model.inUse);
        Check.due(what + " writes", store.writes(), model.writes);
        Check.due(what + " down", store.down(), model.down);
    }
}
