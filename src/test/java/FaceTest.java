import java.lang.reflect.Constructor;
import java.lang.reflect.Field;
import java.lang.reflect.Method;
import java.lang.reflect.Modifier;
import java.util.Set;
import java.util.TreeSet;

/** The public face is the document's, and nothing besides it can be seen from outside. */
public final class FaceTest {
    private static final Set<String> MEMBERS = Set.of(
        "public static final int NONE", "public static final int BAD",
        "public static final int CORRUPT", "public static final int DOWN",
        "public static final int MISMATCH",
        "public HashedStore(int,int)",
        "public int format()", "public int write(int,int,int)", "public int read(int,int)",
        "public boolean verify(int)", "public int root()", "public int audit()",
        "public void tamper(int,int)", "public void crashAfter(int)", "public int recover(int)",
        "public int cells()", "public int peek(int)", "public int writes()", "public int slot()",
        "public boolean down()");

    private FaceTest() {
    }

    public static void main(String[] args) {
        Check.due("the class is public and final",
            Modifier.toString(HashedStore.class.getModifiers()).equals("public final"), true);
        Set<String> seen = visibleMembers();
        for (String member : seen) {
            Check.due("in the document: " + member, MEMBERS.contains(member), true);
        }
        for (String member : MEMBERS) {
            Check.due("in the class: " + member, seen.contains(member), true);
        }
        Check.due("NONE", HashedStore.NONE, -1);
        Check.due("BAD", HashedStore.BAD, -2);
        Check.due("CORRUPT", HashedStore.CORRUPT, -3);
        Check.due("DOWN", HashedStore.DOWN, -4);
        Check.due("MISMATCH", HashedStore.MISMATCH, -5);
        checkStaticsAreFinal();
        checkPrivateNames();
        Check.finish();
    }

    private static Set<String> visibleMembers() {
        Set<String> seen = new TreeSet<>();
        for (Field f : HashedStore.class.getDeclaredFields()) {
            if (!Modifier.isPrivate(f.getModifiers())) {
                seen.add(f.toString().replace("HashedStore.", ""));
            }
        }
        for (Constructor<?> c : HashedStore.class.getDeclaredConstructors()) {
            if (!Modifier.isPrivate(c.getModifiers())) {
                seen.add(c.toString());
            }
        }
        for (Method m : HashedStore.class.getDeclaredMethods()) {
            if (!Modifier.isPrivate(m.getModifiers())) {
                seen.add(m.toString().replace("HashedStore.", ""));
            }
        }
        return seen;
    }

    private static void checkStaticsAreFinal() {
        for (Field f : HashedStore.class.getDeclaredFields()) {
            boolean kept = !Modifier.isStatic(f.getModifiers()) || Modifier.isFinal(f.getModifiers());
            Check.due("no static state: " + f.getName(), kept, true);
        }
    }

    private static void checkPrivateNames() {
        for (Method m : HashedStore.class.getDeclaredMethods()) {
            if (Modifier.isPrivate(m.getModifiers())) {
                boolean taken = MEMBERS.stream().anyMatch(s -> s.contains(" " + m.getName() + "("));
                Check.due("a private method bears a public name: " + m.getName(), taken, false);
            }
        }
    }
}
