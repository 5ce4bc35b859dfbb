import java.lang.reflect.Field;
import java.lang.reflect.Modifier;
import java.util.ArrayList;
import java.util.Arrays;
import java.util.HashMap;
import java.util.List;
import java.util.Map;
import java.util.Set;
import java.util.regex.Pattern;

/** The rules of ../shared/LANGUAGE.md that a text can be asked for, by their numbers. */
final class LanguageTest {
    private static final int MOST_CLASSES = 12, MOST_FIELDS = 20, MOST_LINES = 60;
    private static final int MOST_PARAMETERS = 7, MOST_DEEP = 8;
    private static final Set<String> LIBRARY = Set.of("length", "charAt", "arraycopy", "bitCount",
        "numberOfTrailingZeros", "max", "min", "abs");
    private static final String[] WORDS = {"throw", "throws", "try", "catch", "finally", "synchronized", "assert",
        "import", "package", "instanceof", "interface", "record", "enum", "native", "volatile", "transient", "Object",
        "Thread", "Random", "Runtime", "Class", "equals", "hashCode", "toString", "java", "float", "double"};

    private final Source source = new Source();
    private final Map<String, Integer> depths = new HashMap<>();

    private LanguageTest() { }

    static void run() {
        LanguageTest test = new LanguageTest();
        test.words();
        test.library();
        test.classes();
        test.methods();
        test.objects();
        test.depth();
    }

    /** Rules 2, 3, 6 and 13. */
    private void words() {
        for (String word : WORDS) {
            Due.due("\"" + word + "\" in the source", source.found("\\b" + word + "\\b").size(), 0);
        }
        for (String sign : new String[] {"->", "::", "@", "? extends", "<T"}) {
            Due.due("\"" + sign + "\" in the source", source.found(Pattern.quote(sign)).size(), 0);
        }
        Due.due("signs above 126 in the source", source.whole.chars().filter(c -> c > 126).count(), 0);
        Due.due("arrays of two dimensions", source.found("\\]\\s*\\[").size(), 0);
    }

    /** Rule 4. */
    private void library() {
        List<String> own = source.methods.stream().map(Source.Method::name).toList();
        for (String name : source.found("\\.(\\w+)\\(")) {
            Due.due("." + name + "() is its own or of the library", own.contains(name) || LIBRARY.contains(name) ? 1 : 0, 1);
        }
        for (String name : source.found("\\bSystem\\.(\\w+)")) {
            Due.due("System." + name, name.equals("arraycopy") ? 1 : 0, 1);
        }
        List<String> classes = source.found("class (\\w+)");
        for (String name : source.found("\\b([A-Z]\\w*[a-z]\\w*)\\.")) {
            boolean is = classes.contains(name) || List.of("System", "Math", "Integer").contains(name);
            Due.due(name + " is its own or of the library", is ? 1 : 0, 1);
        }
    }

    /** Rules 1, 2, 3, 5 and 11. */
    private void classes() {
        List<Class<?>> all = new ArrayList<>(Arrays.asList(ChalkRoads.class.getDeclaredClasses()));
        for (Class<?> c : all) {
            int m = c.getModifiers();
            Due.due(c + " is static", Modifier.isStatic(m) ? 1 : 0, 1);
            Due.due(c + " is not seen outside", Modifier.isPublic(m) || Modifier.isProtected(m) ? 1 : 0, 0);
            Due.due(c + " has classes of its own", c.getDeclaredClasses().length, 0);
        }
        all.add(ChalkRoads.class);
        Due.due("classes at most", Math.max(MOST_CLASSES, all.size()), MOST_CLASSES);
        Due.due("classes in the source", source.found("\\bclass\\b").size(), all.size());
        for (Class<?> c : all) {
            int many = 0;
            for (Field f : c.getDeclaredFields()) {
                if (f.isSynthetic()) {
                    continue;
                }
                field(f);
                many += Modifier.isStatic(f.getModifiers()) ? 0 : 1;
            }
            Due.due(c + " has so many fields at most", Math.max(MOST_FIELDS, many), MOST_FIELDS);
        }
    }

    private static void field(Field f) {
        Class<?> type = f.getType().isArray() ? f.getType().getComponentType() : f.getType();
        boolean isOwn = type.getEnclosingClass() == ChalkRoads.class;
        Due.due(f + " is of a type that may be", type.isPrimitive() || isOwn ? 1 : 0, 1);
        if (Modifier.isStatic(f.getModifiers())) {
            Due.due(f + " is final", Modifier.isFinal(f.getModifiers()) ? 1 : 0, 1);
            Due.due(f + " is a number", f.getType() == int.class || f.getType() == long.class ? 1 : 0, 1);
        }
    }

    /** Rules 1 and 11. */
    private void methods() {
        Due.due("methods are found", source.methods.size() > 100 ? 1 : 0, 1);
        List<String> face = new ArrayList<>();
        for (Source.Method m : source.methods) {
            if (m.header().startsWith("public ") && !m.isConstructor()) {
                face.add(m.name());
            }
        }
        Due.due("methods of the face are found", face.size(), 41);
        for (Source.Method m : source.methods) {
            boolean isPublic = m.header().startsWith("public ");
            Due.due(m.header() + ": the name of a public one", !isPublic && face.contains(m.name()) ? 1 : 0, 0);
            Due.due(m.header() + ": so many lines at most", Math.max(MOST_LINES, m.lines()), MOST_LINES);
            Due.due(m.header() + ": takes so many at most", Math.max(MOST_PARAMETERS, m.parameters()), MOST_PARAMETERS);
        }
    }

    /** Rule 12, in its strictest form: all is made in constructors, so no call makes an object. */
    private void objects() {
        int inConstructors = 0;
        for (Source.Method m : source.methods) {
            int made = Source.found(m.body(), "\\bnew\\b").size();
            if (m.isConstructor()) {
                inConstructors += made;
            } else {
                Due.due(m.header() + ": objects made", made, 0);
            }
        }
        Due.due("objects made in constructors", source.found("\\bnew\\b").size(), inConstructors);
        Due.due("copies of arrays", source.found("\\bclone\\b|\\bcopyOfRange\\b|\\bArrays\\b").size(), 0);
    }

    /** Rules 8 and 11: methods of one name count as one, which can only make it deeper. */
    private void depth() {
        for (Source.Method m : source.methods) {
            int deep = depthOf(m.name(), 0);
            Due.due(m.header() + ": so deep at most", Math.max(MOST_DEEP, deep), MOST_DEEP);
        }
    }

    private int depthOf(String name, int open) {
        if (depths.containsKey(name)) {
            return depths.get(name);
        }
        if (open > 50) {
            return open;
        }
        int deepest = 0;
        for (Source.Method m : source.methods) {
            if (m.name().equals(name)) {
                for (String called : Source.found(m.body(), "(\\w+)\\s*\\(")) {
                    if (isOwnMethod(called) && !(called.equals(name) && name.equals("give"))) {
                        deepest = Math.max(deepest, depthOf(called, open + 1));
                    }
                }
            }
        }
        depths.put(name, deepest + 1);
        return deepest + 1;
    }

    private boolean isOwnMethod(String name) {
        return source.methods.stream().anyMatch(m -> m.name().equals(name));
    }
}
