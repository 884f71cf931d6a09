import java.lang.reflect.Constructor;
import java.lang.reflect.Field;
import java.lang.reflect.Method;
import java.lang.reflect.Modifier;
import java.util.Set;
import java.util.TreeSet;

/** The public face is the document's, to the letter, and nothing else can be seen. */
public final class FaceTest {
    private static final Answers ANSWERS = new Answers("FaceTest");

    private FaceTest() {
    }

    public static void main(String[] args) throws IllegalAccessException {
        Class<?> face = SelfIndexImage.class;
        ANSWERS.dueText("the class", Modifier.toString(face.getModifiers()), "public final");
        ANSWERS.dueText("its parent", face.getSuperclass().getName(), "java.lang.Object");
        ANSWERS.due("interfaces", face.getInterfaces().length, 0);
        methods(face);
        fields(face);
        constructors(face);
        classesInside(face);
        ANSWERS.end();
    }

    private static void methods(Class<?> face) {
        Set<String> want = new TreeSet<>(Set.of(
                "public boolean SelfIndexImage.write(char)",
                "public void SelfIndexImage.erase()",
                "public boolean SelfIndexImage.build(int)",
                "public long SelfIndexImage.word(int)",
                "public boolean SelfIndexImage.put(int,long)",
                "public boolean SelfIndexImage.flip(int,int)",
                "public boolean SelfIndexImage.load()",
                "public int SelfIndexImage.length()",
                "public int SelfIndexImage.rate()",
                "public int SelfIndexImage.charAt(int)"));
        want.addAll(Set.of(
                "public int SelfIndexImage.rowOf(int)",
                "public int SelfIndexImage.placeOf(int)",
                "public boolean SelfIndexImage.ask(char)",
                "public boolean SelfIndexImage.back()",
                "public int SelfIndexImage.count()",
                "public int SelfIndexImage.firstRow()",
                "public int SelfIndexImage.locate(int)",
                "public int SelfIndexImage.variety()"));
        Set<String> got = new TreeSet<>();
        for (Method method : face.getDeclaredMethods()) {
            if (!Modifier.isPrivate(method.getModifiers())) {
                got.add(method.toString());
            }
        }
        ANSWERS.dueText("methods", got.toString(), want.toString());
    }

    private static void fields(Class<?> face) throws IllegalAccessException {
        StringBuilder got = new StringBuilder();
        for (Field field : face.getDeclaredFields()) {
            if (!Modifier.isPrivate(field.getModifiers())) {
                got.append(field).append(" = ").append(field.get(null));
            }
        }
        ANSWERS.dueText("fields", got.toString(),
                "public static final int SelfIndexImage.NONE = -1");
    }

    private static void constructors(Class<?> face) {
        StringBuilder got = new StringBuilder();
        for (Constructor<?> constructor : face.getDeclaredConstructors()) {
            got.append(constructor);
        }
        ANSWERS.dueText("constructors", got.toString(), "public SelfIndexImage()");
    }

    private static void classesInside(Class<?> face) {
        for (Class<?> inside : face.getDeclaredClasses()) {
            int modifiers = inside.getModifiers();
            ANSWERS.due(inside + " is static", Modifier.isStatic(modifiers), true);
            boolean shown = Modifier.isPublic(modifiers) || Modifier.isProtected(modifiers);
            ANSWERS.due(inside + " can be seen", shown, false);
        }
    }
}
