import java.lang.reflect.Constructor;
import java.lang.reflect.Field;
import java.lang.reflect.Method;
import java.lang.reflect.Modifier;
import java.nio.file.Files;
import java.nio.file.Path;
import java.util.Set;
import java.util.TreeSet;
import java.util.regex.Pattern;

/** The class shows the document's face and nothing else, and keeps from the words that the rules forbid. */
public final class FaceTest {
    private static final Set<String> METHODS = Set.of(
            "int cls(int,int,int)", "int method(int,int,int,int,int,int)", "int code(int,int)",
            "int trap(int,int,int,int)", "int link(int)", "int image(int)", "boolean feed(int)", "int check()",
            "boolean boot(int,int)", "boolean input(int)", "int run(int)", "int out(int)", "int thread(int,int)",
            "boolean sound()", "int told(int)");

    public static void main(String[] args) throws Exception {
        Due due = new Due("face");
        due.is("BAD", PocketMachine.BAD, -1);
        due.is("NONE", PocketMachine.NONE, -2);
        due.is("modifiers", PocketMachine.class.getModifiers(), Modifier.PUBLIC | Modifier.FINAL);
        due.text("methods", visibleMethods(), new TreeSet<>(METHODS).toString());
        due.text("fields", visibleFields(), "[BAD, NONE]");
        Constructor<?>[] constructors = PocketMachine.class.getDeclaredConstructors();
        due.is("constructors", constructors.length, 1);
        due.is("constructor is public", constructors[0].getModifiers(), Modifier.PUBLIC);
        due.is("constructor's arguments", constructors[0].getParameterCount(), 0);
        for (Class<?> inside : PocketMachine.class.getDeclaredClasses()) {
            due.yes(inside + " is private and static", (inside.getModifiers() & (Modifier.PRIVATE | Modifier.STATIC))
                    == (Modifier.PRIVATE | Modifier.STATIC));
            for (Method m : inside.getDeclaredMethods()) {
                due.no(inside + " has a " + m.getName(), faceHas(m.getName()));
            }
        }
        String source = Files.readString(Path.of("src/main/java/PocketMachine.java"));
        String code = source.replaceAll("(?s)/\\*.*?\\*/", " ").replaceAll("//[^\n]*", " ");
        for (String word : new String[] {"throw", "try", "catch", "synchronized", "assert", "Exact", "->", "::"}) {
            due.no("the word " + word, Pattern.compile("(?<![\\w\"])" + word + "(?![\\w\"])").matcher(code).find());
        }
        due.end();
    }

    private static boolean faceHas(String name) {
        for (String method : METHODS) {
            if (method.contains(" " + name + "(")) {
                return true;
            }
        }
        return false;
    }

    private static String visibleMethods() {
        Set<String> names = new TreeSet<>();
        for (Method m : PocketMachine.class.getDeclaredMethods()) {
            if (!Modifier.isPrivate(m.getModifiers()) && !m.isSynthetic()) {
                StringBuilder types = new StringBuilder();
                for (Class<?> type : m.getParameterTypes()) {
                    types.append(types.length() == 0 ? "" : ",").append(type.getName());
                }
                names.add(m.getReturnType().getName() + " " + m.getName() + "(" + types + ")");
            }
        }
        return names.toString();
    }

    private static String visibleFields() {
        Set<String> names = new TreeSet<>();
        for (Field f : PocketMachine.class.getDeclaredFields()) {
            if (!Modifier.isPrivate(f.getModifiers()) && !f.isSynthetic()) {
                names.add(f.getName());
            }
        }
        return names.toString();
    }
}
