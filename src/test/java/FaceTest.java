import java.lang.reflect.Constructor;
import java.lang.reflect.Field;
import java.lang.reflect.Member;
import java.lang.reflect.Method;
import java.lang.reflect.Modifier;
import java.util.HashSet;
import java.util.Set;
import java.util.TreeSet;

/** The class shows the document's public face and nothing else (LANGUAGE.md, rules 1 and 5). */
public final class FaceTest {
    private static final String[] FACE = {
        "public static final long GappedStore.NONE",
        "public static final int GappedStore.BAD",
        "public GappedStore(int)",
        "public int GappedStore.put(long,long)",
        "public int GappedStore.fill(long,long,int)",
        "public boolean GappedStore.remove(long)",
        "public int GappedStore.drop(long,int)",
        "public boolean GappedStore.has(long)",
        "public long GappedStore.get(long)",
        "public long GappedStore.floor(long)",
        "public long GappedStore.ceiling(long)",
        "public long GappedStore.select(int)",
        "public int GappedStore.count(long,long)",
        "public long GappedStore.sum(long,long)",
        "public int GappedStore.size()",
        "public int GappedStore.cells()",
        "public long GappedStore.cellKey(int)",
        "public int GappedStore.place(int)",
        "public long GappedStore.borne(int)",
        "public int GappedStore.touched(long,int)",
        "public int GappedStore.window()",
        "public long GappedStore.moved()",
    };

    private static void note(Set<String> shown, Member member, String text) {
        if (!Modifier.isPrivate(member.getModifiers()) && !member.isSynthetic()) {
            shown.add(text);
        }
    }

    private static Set<String> shownMembers() {
        Set<String> shown = new TreeSet<>();
        for (Field field : GappedStore.class.getDeclaredFields()) {
            note(shown, field, field.toGenericString());
        }
        for (Constructor<?> constructor : GappedStore.class.getDeclaredConstructors()) {
            note(shown, constructor, constructor.toGenericString());
        }
        for (Method method : GappedStore.class.getDeclaredMethods()) {
            note(shown, method, method.toGenericString());
        }
        return shown;
    }

    private static void checkNames() {
        Set<String> names = new HashSet<>();
        for (Method method : GappedStore.class.getMethods()) {
            names.add(method.getName());
        }
        for (Method method : GappedStore.class.getDeclaredMethods()) {
            if (Modifier.isPrivate(method.getModifiers()) && names.contains(method.getName())) {
                Due.tell("a private method bears the name of a public one: " + method.getName());
            }
        }
    }

    private static void checkStaticFields() {
        for (Field field : GappedStore.class.getDeclaredFields()) {
            int modifiers = field.getModifiers();
            if (Modifier.isStatic(modifiers) && !Modifier.isFinal(modifiers)) {
                Due.tell("the static field " + field.getName() + " is not final");
            }
        }
    }

    public static void main(String[] args) {
        Due.about("the face");
        int modifiers = GappedStore.class.getModifiers();
        if (!Modifier.isPublic(modifiers) || !Modifier.isFinal(modifiers)) {
            Due.tell("the class is not public and final");
        }
        Set<String> due = new TreeSet<>(Set.of(FACE));
        Set<String> shown = shownMembers();
        if (!shown.equals(due)) {
            Due.tell("the class shows " + shown + ", due is " + due);
        }
        checkNames();
        checkStaticFields();
        Due.end("the face is as due");
    }
}
