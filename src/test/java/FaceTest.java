import java.lang.reflect.Constructor;
import java.lang.reflect.Field;
import java.lang.reflect.Member;
import java.lang.reflect.Method;
import java.lang.reflect.Modifier;
import java.util.TreeSet;

/** The public face is that of the document, with its exceptions, and nothing besides. */
public final class FaceTest {
    private static final String[] DUE = {
        "LabelStation()",
        "boolean jam(boolean)",
        "double goodShare()",
        "int NONE",
        "int append(int) IllegalArgumentException IllegalStateException",
        "int carryOut()",
        "int clearText()",
        "int counter(int) IllegalArgumentException",
        "int fastest()",
        "int fate(int) NoSuchElementException",
        "int feed(int) IllegalArgumentException IllegalStateException",
        "int item(int,int) NoSuchElementException IllegalArgumentException",
        "int numberAt(int,boolean) IndexOutOfBoundsException",
        "int record(int,int) NoSuchElementException IllegalArgumentException",
        "int reconcile(boolean)",
        "int reset() IllegalStateException",
        "int run(int) IllegalArgumentException",
        "int set(int,int) IllegalArgumentException",
        "int setPlaces(int,int,int,int,int) IllegalArgumentException IllegalStateException",
        "int slip(int,int) NoSuchElementException IllegalArgumentException",
        "int spare(int) IllegalArgumentException",
        "int start() IllegalStateException",
        "int status(int) IllegalArgumentException",
        "int stop() IllegalStateException",
        "int take(int) NoSuchElementException",
        "int undo() IllegalStateException",
        "int value(int) IllegalArgumentException",
        "long digest()",
    };

    public static void main(String[] args) {
        TreeSet<String> due = new TreeSet<>(java.util.Arrays.asList(DUE));
        TreeSet<String> got = new TreeSet<>();
        TreeSet<String> publicNames = new TreeSet<>();
        Class<?> face = LabelStation.class;
        for (Constructor<?> c : face.getDeclaredConstructors()) {
            if (isVisible(c)) {
                got.add("LabelStation(" + names(c.getParameterTypes(), ",") + ")" + thrown(c.getExceptionTypes()));
            }
        }
        for (Method m : face.getDeclaredMethods()) {
            if (isVisible(m)) {
                publicNames.add(m.getName());
                got.add(m.getReturnType().getSimpleName() + " " + m.getName() + "("
                        + names(m.getParameterTypes(), ",") + ")" + thrown(m.getExceptionTypes()));
            }
        }
        for (Field f : face.getDeclaredFields()) {
            if (isVisible(f)) {
                got.add(f.getType().getSimpleName() + " " + f.getName());
            }
        }
        for (String member : due) {
            Check.due("the face has " + member, got.contains(member), true);
        }
        for (String member : got) {
            Check.due("the document has " + member, due.contains(member), true);
        }
        for (Method m : face.getDeclaredMethods()) {
            boolean hides = !isVisible(m) && publicNames.contains(m.getName());
            Check.due("a private method has the public name " + m.getName(), hides, false);
        }
        Check.due("the class is public and final", Modifier.isPublic(face.getModifiers())
                && Modifier.isFinal(face.getModifiers()), true);
        Check.due("NONE", LabelStation.NONE, -1);
        Check.end("FaceTest");
    }

    private static boolean isVisible(Member m) {
        return !Modifier.isPrivate(m.getModifiers()) && !m.isSynthetic();
    }

    private static String names(Class<?>[] types, String between) {
        StringBuilder all = new StringBuilder();
        for (Class<?> type : types) {
            all.append(all.length() == 0 ? "" : between).append(type.getSimpleName());
        }
        return all.toString();
    }

    private static String thrown(Class<?>[] types) {
        return types.length == 0 ? "" : " " + names(types, " ");
    }
}
