import java.lang.reflect.Constructor;
import java.lang.reflect.Field;
import java.lang.reflect.Method;
import java.lang.reflect.Modifier;
import java.util.Set;
import java.util.TreeSet;

/** The class has the document's face, and nothing else of it can be seen from outside. */
public final class FaceTest {
    private static final String[] FACE = {
        "public static final int NONE",
        "public LandRegister()",
        "public int found(int,int,int) throws IllegalArgumentException IllegalStateException",
        "public int sell(int,int,int,int,long) throws IllegalArgumentException IllegalStateException",
        "public int pledge(int,int,int,int) throws IllegalArgumentException IllegalStateException",
        "public int rerank(int,int,int,int,int) throws IllegalArgumentException IllegalStateException",
        "public int release(int,int,int) throws IllegalArgumentException IllegalStateException",
        "public int caution(int,int,int) throws IllegalArgumentException IllegalStateException",
        "public int lift(int,int,int) throws IllegalArgumentException IllegalStateException",
        "public int split(int,int,int) throws IllegalArgumentException IllegalStateException",
        "public int merge(int,int,int) throws IllegalArgumentException IllegalStateException",
        "public int day() throws IllegalStateException",
        "public int view(int,int) throws IllegalArgumentException",
        "public int parcel(int)",
        "public long area(int) throws IllegalArgumentException",
        "public long share(int,int) throws IllegalArgumentException",
        "public int mortgage(int,int,int) throws IllegalArgumentException",
        "public int cautions(int) throws IllegalArgumentException",
        "public int origin(int,int) throws IllegalArgumentException",
        "public int holding(int,int) throws IllegalArgumentException",
        "public long owed(int) throws IllegalArgumentException",
        "public int state(int) throws IndexOutOfBoundsException",
    };

    private static boolean visible(int modifiers) {
        return !Modifier.isPrivate(modifiers);
    }

    private static String types(Class<?>[] types, String between) {
        StringBuilder text = new StringBuilder();
        for (Class<?> type : types) {
            text.append(text.length() == 0 ? "" : between).append(type.getSimpleName());
        }
        return text.toString();
    }

    private static String thrown(Class<?>[] types) {
        return types.length == 0 ? "" : " throws " + types(types, " ");
    }

    private static Set<String> seen() {
        Set<String> seen = new TreeSet<>();
        for (Field f : LandRegister.class.getDeclaredFields()) {
            if (visible(f.getModifiers())) {
                seen.add(Modifier.toString(f.getModifiers()) + " " + f.getType() + " " + f.getName());
            }
        }
        for (Constructor<?> c : LandRegister.class.getDeclaredConstructors()) {
            if (visible(c.getModifiers())) {
                seen.add(Modifier.toString(c.getModifiers()) + " LandRegister("
                        + types(c.getParameterTypes(), ",") + ")" + thrown(c.getExceptionTypes()));
            }
        }
        for (Method m : LandRegister.class.getDeclaredMethods()) {
            if (visible(m.getModifiers())) {
                seen.add(Modifier.toString(m.getModifiers()) + " " + m.getReturnType() + " " + m.getName()
                        + "(" + types(m.getParameterTypes(), ",") + ")" + thrown(m.getExceptionTypes()));
            }
        }
        return seen;
    }

    private static int privateNamesakes(Class<?> type) {
        int wrong = 0;
        for (Method m : type.getDeclaredMethods()) {
            for (Method face : LandRegister.class.getMethods()) {
                if (visible(face.getModifiers()) && face.getDeclaringClass() == LandRegister.class
                        && !visible(m.getModifiers()) && m.getName().equals(face.getName())) {
                    System.out.println("private method with a public name: " + m);
                    wrong++;
                }
            }
        }
        return wrong;
    }

    public static void main(String[] args) {
        int wrong = 0;
        Set<String> seen = seen();
        for (String line : FACE) {
            if (!seen.remove(line)) {
                System.out.println("not in the class: " + line);
                wrong++;
            }
        }
        for (String line : seen) {
            System.out.println("not in the document: " + line);
            wrong++;
        }
        int modifiers = LandRegister.class.getModifiers();
        if (!Modifier.isPublic(modifiers) || !Modifier.isFinal(modifiers)) {
            System.out.println("the class is not public and final");
            wrong++;
        }
        wrong += privateNamesakes(LandRegister.class);
        for (Class<?> inside : LandRegister.class.getDeclaredClasses()) {
            if (Modifier.isPublic(inside.getModifiers()) || Modifier.isProtected(inside.getModifiers())) {
                System.out.println("a class inside that can be seen: " + inside);
                wrong++;
            }
            wrong += privateNamesakes(inside);
        }
        System.out.println(wrong == 0 ? "the face is as due" : wrong + " things are not as due");
        if (wrong != 0) {
            System.exit(1);
        }
    }
}
