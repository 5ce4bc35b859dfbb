import java.lang.reflect.Constructor;
import java.lang.reflect.Field;
import java.lang.reflect.Member;
import java.lang.reflect.Method;
import java.lang.reflect.Modifier;
import java.nio.file.Files;
import java.nio.file.Path;
import java.util.ArrayList;
import java.util.Arrays;
import java.util.List;
import java.util.regex.Pattern;

/** "The public face": all that the document writes out, word for word, and no member beyond it. */
final class FaceTest {
    /** As the document writes it out. */
    private static final String FACE = """
        public final class ChalkRoads {
            public static final int BAD = -1, STATE = -2, FULL = -3, NONE = -4;
            public ChalkRoads();
            public int feed(long v);
            public int end(int n);
            public int text();
            public int fault();
            public int rule(int what);
            public int line(int l, int what);
            public int chalk(int d);
            public int one(int p, int what);
            public int rain(int q);
            public int draw(int d, int l);
            public int rub(int l, int v);
            public int wet();
            public int cloud(int q, boolean is);
            public int build(int i, boolean is);
            public int plan(int a, int b, int yards);
            public int way(int a, int b, int what);
            public int part(int a);
            public int meet(int some);
            public int needed();
            public int where(int p, int q);
            public int strength(int l, int q);
            public int comes(int p);
            public int waited(int p, int q);
            public int lost(int q);
            public int storm(int q);
            public int worst(int what);
            public int dawn(int what);
            public int sure(int what);
            public int share(int some, int what);
            public int hear(int some, boolean came);
            public int forget(int n);
            public int breaks(int what);
            public int known(int what);
            public int ask(int what);
            public int keep(int k);
            public int back(int k);
            public int sheet(int k, int lane, int n);
            public int lay(int k, int i, int v);
            public int read(int k, int lane, int f, int n);
            public int torn();
            public int count(int what);
        }
        """;

    private FaceTest() { }

    static void run() {
        List<String> face = face();
        wordForWord(face);
        asItIsCompiled(face);
        nothingBeyond(face);
        constants();
    }

    /** The rows between the class and its end; the document, where it is found, must have them, too. */
    private static List<String> face() {
        Path document = Path.of("../shared/DOC.md");
        if (Files.exists(document)) {
            String told = Source.read(document.toString());
            Due.due("the face is the document's", count(told, "```java\n" + FACE + "```"), 1);
        }
        List<String> rows = FACE.lines().map(String::strip).toList();
        return rows.subList(1, rows.size() - 1);
    }

    private static void wordForWord(List<String> face) {
        Source source = new Source();
        Due.due("the class", source.found("public final class ChalkRoads \\{").size(), 1);
        for (String row : face) {
            String told = row.contains("(") ? row.replace(";", " {") : row;
            Due.due("\"" + told + "\" in the source", count(source.whole, "\n    " + told + "\n"), 1);
        }
        Due.due("public in the source", source.found("\\bpublic\\b").size(), face.size() + 1);
        Due.due("protected in the source", source.found("\\bprotected\\b").size(), 0);
    }

    private static int count(String text, String part) {
        return text.split(Pattern.quote(part), -1).length - 1;
    }

    /** A row as reflection tells it: without the names of what a method takes. */
    private static String asTold(String row) {
        return row.replaceAll("(\\w+) \\w+([,)])", "$1$2").replace(" ", "").replace(";", "");
    }

    private static void asItIsCompiled(List<String> face) {
        List<String> compiled = new ArrayList<>();
        for (Method m : ChalkRoads.class.getDeclaredMethods()) {
            compiled.add(m.toString().replaceAll("\\w+\\.", "").replace(" ", ""));
        }
        for (String row : face) {
            if (row.startsWith("public int ")) {
                Due.due(row + " as it is compiled", compiled.contains(asTold(row)) ? 1 : 0, 1);
            }
        }
    }

    private static void nothingBeyond(List<String> face) {
        Class<?> all = ChalkRoads.class;
        Due.due("the class is public and final", all.getModifiers(), Modifier.PUBLIC | Modifier.FINAL);
        Due.due("it extends Object alone", all.getSuperclass() == Object.class ? 1 : 0, 1);
        Due.due("it implements nothing", all.getInterfaces().length, 0);
        Due.due("it stands in no package", all.getPackageName().length(), 0);
        int methods = (int) face.stream().filter(row -> row.startsWith("public int ")).count();
        Due.due("methods of the face", methods, 41);
        seen("methods", all.getDeclaredMethods(), methods);
        seen("constructors", all.getDeclaredConstructors(), 1);
        seen("fields", all.getDeclaredFields(), 4);
        for (Constructor<?> c : all.getDeclaredConstructors()) {
            Due.due("numbers of the constructor", c.getParameterCount(), 0);
        }
    }

    /** All but the private ones, and these are public. */
    private static void seen(String what, Member[] members, int want) {
        List<Member> seen = Arrays.stream(members)
            .filter(m -> !Modifier.isPrivate(m.getModifiers()) && !m.isSynthetic()).toList();
        Due.due(what + " that can be seen", seen.size(), want);
        Due.due(what + " that are public", seen.stream().filter(m -> Modifier.isPublic(m.getModifiers())).count(), want);
    }

    private static void constants() {
        String[] names = {"BAD", "STATE", "FULL", "NONE"};
        for (int i = 0; i < names.length; i++) {
            try {
                Field f = ChalkRoads.class.getField(names[i]);
                int want = Modifier.PUBLIC | Modifier.STATIC | Modifier.FINAL;
                Due.due(names[i] + " is public static final", f.getModifiers(), want);
                Due.due(names[i] + " is an int", f.getType() == int.class ? 1 : 0, 1);
                Due.due(names[i], f.getInt(null), -1 - i);
            } catch (ReflectiveOperationException e) {
                Due.due(names[i] + " is there", 0, 1);
            }
        }
    }
}
