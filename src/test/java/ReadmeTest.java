import java.io.IOException;
import java.nio.file.Files;
import java.nio.file.Path;

/** What README.md shows is what the program does. */
public final class ReadmeTest {
    private ReadmeTest() {
    }

    public static void main(String[] args) throws IOException {
        example();
        everyCallIsTold(Files.readString(Path.of("README.md")));
        Check.finish();
    }

    /** The example of README.md, call by call. */
    private static void example() {
        HashedStore store = new HashedStore(3, 2);
        Check.due("write(3, 1, 77)", store.write(3, 1, 77), 0);
        Check.due("read(3, 1)", store.read(3, 1), 77);
        int trusted = store.root();

        int area = store.slot() * store.cells() / 2;
        int cell = area + 3 * 2 + 1;
        store.tamper(cell, 78);
        Check.due("read of the tampered word", store.read(3, 1), HashedStore.CORRUPT);
        Check.due("audit", store.audit(), 3);
        store.tamper(cell, 77);
        Check.due("audit of what was set right", store.audit(), HashedStore.NONE);

        store.crashAfter(2);
        Check.due("write that crashes", store.write(0, 0, 5), HashedStore.DOWN);
        Check.due("read when down", store.read(3, 1), HashedStore.DOWN);
        Check.due("recover", store.recover(trusted), 0);
        Check.due("the word of before", store.read(3, 1), 77);
        Check.due("the word that was lost", store.read(0, 0), 0);
        Check.due("write again", store.write(0, 0, 5), 0);
    }

    private static void everyCallIsTold(String readme) {
        String[] calls = {
            "new HashedStore(depth, blockWords)", "format()", "write(b, i, word)", "read(b, i)", "verify(b)",
            "root()", "audit()", "tamper(addr, word)", "crashAfter(writes)", "recover(trustedRoot)",
            "cells()", "peek(addr)", "writes()", "slot()", "down()"};
        for (String call : calls) {
            Check.due("told in README.md: " + call, readme.contains("| `" + call + "` |"), true);
        }
    }
}
