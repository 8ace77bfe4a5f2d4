import java.io.IOException;
import java.io.InputStream;
import java.lang.reflect.Field;
import java.lang.reflect.Method;
import java.lang.reflect.Modifier;
import java.util.ArrayList;
import java.util.List;
import java.util.Map;
import java.util.Set;
import java.util.TreeMap;

/** The rules of ../shared/LANGUAGE.md that can be counted: what the compiled class is made of, and whom it calls. */
public final class RulesTest {
    private static final int CLASSES = 12, FIELDS = 20, PARAMETERS = 7, LINES = 60, DEPTH = 8;
    private static final Set<String> LIBRARY = Set.of("java/lang/Object.<init>()V", "java/lang/Math.max(II)I",
            "java/lang/Math.min(II)I", "java/lang/System.arraycopy(Ljava/lang/Object;ILjava/lang/Object;II)V",
            "java/util/Arrays.fill([II)V", "java/util/Arrays.fill([IIII)V", "java/util/Arrays.copyOf([II)[I");
    private static final Due due = new Due("rules");

    public static void main(String[] args) throws IOException {
        List<Class<?>> classes = new ArrayList<>(List.of(PocketMachine.class.getDeclaredClasses()));
        classes.add(PocketMachine.class);
        Map<String, ClassFile.Body> bodies = new TreeMap<>();
        for (Class<?> c : classes) {
            bodies.putAll(new ClassFile(bytesOf(c)).bodies);
            fields(c);
            parameters(c);
        }
        due.yes("rule 11: at most some twelve classes: " + classes.size(), classes.size() <= CLASSES);
        due.yes("no class without a name", PocketMachine.class.getResource("PocketMachine$1.class") == null);
        for (Map.Entry<String, ClassFile.Body> entry : bodies.entrySet()) {
            body(entry.getKey(), entry.getValue(), bodies);
        }
        Map<String, Integer> depths = new TreeMap<>();
        for (String method : bodies.keySet()) {
            int depth = depth(method, bodies, depths, new ArrayList<>());
            due.yes("rule 11: calls go at most eight deep: " + depth + " from " + method, depth <= DEPTH);
        }
        due.end();
    }

    private static byte[] bytesOf(Class<?> c) throws IOException {
        try (InputStream in = c.getResourceAsStream(c.getName() + ".class")) {
            return in.readAllBytes();
        }
    }

    private static void fields(Class<?> c) {
        int own = 0;
        for (Field f : c.getDeclaredFields()) {
            boolean fixed = Modifier.isFinal(f.getModifiers());
            if (Modifier.isStatic(f.getModifiers())) {
                due.yes("rule 5: " + f + " is final", fixed);
                due.yes("rule 5: its type", f.getType() == int.class || f.getType() == int[].class);
            } else {
                own++;
            }
        }
        due.yes("rule 11: some twenty fields: " + own + " of " + c, own <= FIELDS);
    }

    private static void parameters(Class<?> c) {
        for (Method m : c.getDeclaredMethods()) {
            due.yes("rule 11: at most seven parameters: " + m, m.getParameterCount() <= PARAMETERS);
            due.no("rule 6: no " + m, Set.of("equals", "hashCode", "toString").contains(m.getName()));
        }
    }

    private static void body(String name, ClassFile.Body body, Map<String, ClassFile.Body> bodies) {
        int first = Integer.MAX_VALUE;
        int last = 0;
        for (int line : body.lines) {
            first = Math.min(first, line);
            last = Math.max(last, line);
        }
        // A constructor has the lines of its fields' initial values, too.
        due.yes("rule 11: some sixty lines: " + name, name.contains("init>") || last - first < LINES);
        due.is("rule 6: no catch in " + name, body.handlers, 0);
        due.no("rule 6: no throw in " + name, body.ops.contains(191));
        due.no("rule 6: no synchronized in " + name, body.ops.contains(194));
        for (String call : body.calls) {
            due.yes("rule 4: " + name + " calls " + call, bodies.containsKey(call) || LIBRARY.contains(call));
        }
    }

    /** How many methods stand open at once from this one on, itself among them; none may call itself. */
    private static int depth(String method, Map<String, ClassFile.Body> bodies, Map<String, Integer> known, List<String> open) {
        due.no("rule 8: " + method + " calls itself", open.contains(method));
        if (open.contains(method) || !bodies.containsKey(method)) {
            return 0;
        }
        if (!known.containsKey(method)) {
            int most = 0;
            open.add(method);
            for (String call : bodies.get(method).calls) {
                most = Math.max(most, depth(call, bodies, known, open));
            }
            open.remove(method);
            known.put(method, 1 + most);
        }
        return known.get(method);
    }
}
