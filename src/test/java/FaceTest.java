import java.lang.reflect.Constructor;
import java.lang.reflect.Field;
import java.lang.reflect.Method;
import java.lang.reflect.Modifier;
import java.util.Set;
import java.util.TreeSet;

/** The public face, and that nothing else can be seen from outside. */
public final class FaceTest {
    private static final String[] FACE = {
        "public static final int NONE", "public static final int BROKEN", "public static final int ODD",
        "public ChainPeers(int,int)", "public boolean open(int)", "public boolean close(int)",
        "public boolean put(int,long)", "public void clear()", "public int wire(int)", "public int receive(int)",
        "public int send(int)", "public int work()", "public int tick(int)", "public int seal(int,int,int)",
        "public int peer(int,int)", "public int block(int,int)", "public int tx(int,int)", "public int state(int)",
    };

    public static void main(String[] args) {
        Due due = new Due();
        due.is("NONE", ChainPeers.NONE, -1);
        due.is("BROKEN", ChainPeers.BROKEN, -2);
        due.is("ODD", ChainPeers.ODD, -3);
        int modifiers = ChainPeers.class.getModifiers();
        due.is("public and final", Modifier.isPublic(modifiers) && Modifier.isFinal(modifiers), true);
        due.is("the face: " + seen() + " for " + due(), seen().equals(due()), true);
        due.end();
    }

    private static Set<String> due() {
        Set<String> face = new TreeSet<>();
        for (String member : FACE) {
            face.add(member);
        }
        return face;
    }

    private static Set<String> seen() {
        Set<String> seen = new TreeSet<>();
        for (Field field : ChainPeers.class.getDeclaredFields()) {
            add(seen, field.getModifiers(), field.toString());
        }
        for (Method method : ChainPeers.class.getDeclaredMethods()) {
            add(seen, method.getModifiers(), method.toString());
        }
        for (Constructor<?> constructor : ChainPeers.class.getDeclaredConstructors()) {
            add(seen, constructor.getModifiers(), constructor.toString());
        }
        return seen;
    }

    private static void add(Set<String> seen, int modifiers, String member) {
        if (!Modifier.isPrivate(modifiers)) {
            seen.add(member.replace("ChainPeers.", ""));
        }
    }
}
