import java.lang.reflect.Constructor;
import java.lang.reflect.Field;
import java.lang.reflect.Method;
import java.lang.reflect.Modifier;
import java.util.ArrayList;
import java.util.Arrays;
import java.util.List;
import java.util.Set;
import java.util.TreeSet;

/** The class shows the document's face and nothing else. */
public final class FaceTest {
    private static final String[] FACE = {
        "int row(int,int,int,long) throws IllegalArgumentException",
        "boolean drop(int,int,int)",
        "boolean hold(int,int,boolean)",
        "boolean poke(int,int,int,long)",
        "long get(int,int,int) throws NoSuchElementException",
        "void begin()",
        "int round() throws IllegalStateException",
        "int rounds()",
        "int differ(int,int)",
        "boolean equal()",
        "int table(int) throws IllegalArgumentException",
        "int found(int,int)",
        "long foundValue(int) throws NoSuchElementException",
        "int digest(int,int,int) throws ArrayIndexOutOfBoundsException",
        "int sum(int,int) throws ArrayIndexOutOfBoundsException",
        "int broken(int)",
        "int anew(int)",
        "int leaf(int,int)",
    };

    private static int wrong = 0;

    public static void main(String[] args) {
        methodsAreTheFace();
        constructorIsTheFace();
        fieldsAreTheFace();
        nestedClassesAreHidden();
        System.out.println(wrong == 0 ? "the face is as due" : wrong + " faults of the face");
        if (wrong != 0) {
            System.exit(1);
        }
    }

    private static void fault(String text) {
        wrong++;
        System.out.println(text);
    }

    private static String shown(Method method) {
        StringBuilder text = new StringBuilder();
        text.append(method.getReturnType().getSimpleName()).append(' ').append(method.getName()).append('(');
        List<String> types = new ArrayList<>();
        for (Class<?> type : method.getParameterTypes()) {
            types.add(type.getSimpleName());
        }
        text.append(String.join(",", types)).append(')');
        for (Class<?> type : method.getExceptionTypes()) {
            text.append(" throws ").append(type.getSimpleName());
        }
        return text.toString();
    }

    private static void methodsAreTheFace() {
        Set<String> open = new TreeSet<>();
        Set<String> openNames = new TreeSet<>();
        for (Method method : DigestTrees.class.getDeclaredMethods()) {
            if (!Modifier.isPrivate(method.getModifiers())) {
                open.add(shown(method));
                openNames.add(method.getName());
                if (!Modifier.isPublic(method.getModifiers()) || Modifier.isStatic(method.getModifiers())) {
                    fault("not a public method of the object: " + method);
                }
            }
        }
        Set<String> due = new TreeSet<>(Arrays.asList(FACE));
        if (!open.equals(due)) {
            fault("methods are " + open + ", due are " + due);
        }
        List<Class<?>> all = new ArrayList<>(List.of(DigestTrees.class.getDeclaredClasses()));
        all.add(DigestTrees.class);
        for (Class<?> type : all) {
            for (Method method : type.getDeclaredMethods()) {
                boolean hidden = type != DigestTrees.class || Modifier.isPrivate(method.getModifiers());
                if (hidden && openNames.contains(method.getName())) {
                    fault("bears the name of a public method: " + method);
                }
            }
        }
    }

    private static void constructorIsTheFace() {
        Constructor<?>[] all = DigestTrees.class.getDeclaredConstructors();
        if (all.length != 1 || all[0].getParameterCount() != 0 || !Modifier.isPublic(all[0].getModifiers())) {
            fault("constructors are " + Arrays.toString(all));
        }
        int modifiers = DigestTrees.class.getModifiers();
        if (!Modifier.isPublic(modifiers) || !Modifier.isFinal(modifiers)) {
            fault("the class is not public and final");
        }
    }

    private static void fieldsAreTheFace() {
        for (Field field : DigestTrees.class.getDeclaredFields()) {
            if (field.getName().equals("NONE")) {
                int due = Modifier.PUBLIC | Modifier.STATIC | Modifier.FINAL;
                if (field.getModifiers() != due || field.getType() != int.class) {
                    fault("NONE is " + field);
                }
            } else if (!Modifier.isPrivate(field.getModifiers())) {
                fault("not private: " + field);
            }
        }
        if (DigestTrees.NONE != -1) {
            fault("NONE is " + DigestTrees.NONE + ", due is -1");
        }
    }

    private static void nestedClassesAreHidden() {
        for (Class<?> type : DigestTrees.class.getDeclaredClasses()) {
            int modifiers = type.getModifiers();
            if (Modifier.isPublic(modifiers) || Modifier.isProtected(modifiers) || !Modifier.isStatic(modifiers)) {
                fault("not hidden and static: " + type);
            }
            for (Field field : type.getDeclaredFields()) {
                if (Modifier.isStatic(field.getModifiers()) && !Modifier.isFinal(field.getModifiers())) {
                    fault("static and not final: " + field);
                }
            }
        }
    }
}
