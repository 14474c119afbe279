import java.lang.reflect.Constructor;
import java.lang.reflect.Field;
import java.lang.reflect.Method;
import java.lang.reflect.Modifier;
import java.util.TreeSet;

/** The public face: every constant, constructor and method of the document, and no other. */
public final class FaceTest {
    private static final String ARGUMENT = " throws java.lang.IllegalArgumentException";
    private static final String STATE = " throws java.lang.IllegalStateException";
    private static final String INDEX = " throws java.lang.IndexOutOfBoundsException";
    private static final String FULL = ",java.lang.UnsupportedOperationException";
    private static final String NO_SUCH = ",java.util.NoSuchElementException";
    private static final String[] METHODS = {
        "public int HelpFile.put(int)" + ARGUMENT + FULL,
        "public void HelpFile.end(int)" + ARGUMENT,
        "public int HelpFile.compile()",
        "public int HelpFile.line()",
        "public int HelpFile.at(int)" + INDEX,
        "public int HelpFile.spoil(int,int)" + INDEX,
        "public boolean HelpFile.open()",
        "public void HelpFile.jump(int)" + STATE + NO_SUCH,
        "public int HelpFile.follow(int)" + STATE + NO_SUCH,
        "public int HelpFile.go(boolean)" + STATE + NO_SUCH,
        "public int HelpFile.about(int)" + STATE + ",java.lang.IllegalArgumentException",
        "public int HelpFile.type(int)" + ARGUMENT + FULL,
        "public int HelpFile.keyword()" + STATE,
        "public int HelpFile.visited()",
        "public int HelpFile.search()" + STATE,
        "public int HelpFile.show(int)" + STATE + ",java.lang.IllegalArgumentException",
        "public int HelpFile.sign(int,int)" + INDEX,
    };
    private static final Check CHECK = new Check();

    public static void main(String[] args) {
        CHECK.yes("public and final", Modifier.isPublic(HelpFile.class.getModifiers())
                && Modifier.isFinal(HelpFile.class.getModifiers()));
        methods();
        constructors();
        fields();
        classesInside();
        CHECK.finish("FaceTest");
    }

    private static void methods() {
        TreeSet<String> due = new TreeSet<>(java.util.List.of(METHODS));
        TreeSet<String> names = new TreeSet<>();
        for (Method method : HelpFile.class.getDeclaredMethods()) {
            if (!Modifier.isPrivate(method.getModifiers())) {
                CHECK.yes("in the document: " + method, due.remove(method.toString()));
                names.add(method.getName());
            }
        }
        CHECK.same("missing", due.toString(), "[]");
        for (Method method : HelpFile.class.getDeclaredMethods()) {
            if (Modifier.isPrivate(method.getModifiers())) {
                CHECK.no("a public one's name: " + method, names.contains(method.getName()));
            }
        }
    }

    private static void constructors() {
        Constructor<?>[] all = HelpFile.class.getDeclaredConstructors();
        CHECK.same("constructors", all.length, 1);
        CHECK.same("the constructor", all[0].toString(), "public HelpFile()");
    }

    private static void fields() {
        for (Field field : HelpFile.class.getDeclaredFields()) {
            boolean isNone = field.toString().equals("public static final int HelpFile.NONE");
            CHECK.yes("private: " + field, isNone || Modifier.isPrivate(field.getModifiers()));
            staticIsFinal(field);
        }
    }

    private static void classesInside() {
        for (Class<?> inside : HelpFile.class.getDeclaredClasses()) {
            int modifiers = inside.getModifiers();
            CHECK.yes("static and not public: " + inside, Modifier.isStatic(modifiers)
                    && !Modifier.isPublic(modifiers) && !Modifier.isProtected(modifiers));
            for (Field field : inside.getDeclaredFields()) {
                staticIsFinal(field);
            }
        }
    }

    private static void staticIsFinal(Field field) {
        int modifiers = field.getModifiers();
        CHECK.yes("no static state: " + field,
                !Modifier.isStatic(modifiers) || Modifier.isFinal(modifiers));
    }
}
