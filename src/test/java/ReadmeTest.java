import java.lang.reflect.InvocationTargetException;
import java.lang.reflect.Method;
import java.util.regex.Matcher;
import java.util.regex.Pattern;

/** Each call that README.md shows answers what stands behind it there. */
final class ReadmeTest {
    private static final Pattern CALL = Pattern.compile("x\\.(\\w+)\\((.*?)\\); *// (-?\\d+)\\b.*");
    private static final Pattern TELL = Pattern.compile("tell\\(x, \"(.*)\"\\); *// (-?\\d+)\\b.*");
    private static final int LEAST_CALLS = 38;

    private ReadmeTest() { }

    static void run() {
        boolean isShown = false;
        ChalkRoads x = null;
        int calls = 0;
        for (String row : Source.read("README.md").split("\n")) {
            if (row.startsWith("```")) {
                isShown = row.equals("```java");
            } else if (isShown && row.equals("ChalkRoads x = new ChalkRoads();")) {
                x = new ChalkRoads();
            } else if (isShown && x != null) {
                shown(x, row);
                calls++;
            }
        }
        Due.due("README.md shows calls", Math.min(calls, LEAST_CALLS), LEAST_CALLS);
    }

    private static void shown(ChalkRoads x, String row) {
        Matcher tell = TELL.matcher(row);
        Matcher call = CALL.matcher(row);
        if (tell.matches()) {
            Due.feed(x, tell.group(1));
            Due.due("README.md: " + row, x.text(), Integer.parseInt(tell.group(2)));
        } else if (call.matches()) {
            Due.due("README.md: " + row, answer(x, call.group(1), call.group(2)), Integer.parseInt(call.group(3)));
        } else {
            Due.due("README.md: " + row + " is a call", 0, 1);
        }
    }

    private static int answer(ChalkRoads x, String name, String told) {
        for (Method m : ChalkRoads.class.getMethods()) {
            if (m.getDeclaringClass() == ChalkRoads.class && m.getName().equals(name)) {
                return answer(x, m, told.isEmpty() ? new String[0] : told.split(", "));
            }
        }
        Due.due("README.md: " + name + " is a method", 0, 1);
        return 0;
    }

    private static int answer(ChalkRoads x, Method m, String[] told) {
        Class<?>[] types = m.getParameterTypes();
        Object[] all = new Object[types.length];
        for (int i = 0; i < types.length && i < told.length; i++) {
            if (types[i] == boolean.class) {
                all[i] = Boolean.valueOf(told[i]);
            } else if (types[i] == long.class) {
                all[i] = Long.decode(told[i].replace("L", ""));
            } else {
                all[i] = Integer.decode(told[i]);
            }
        }
        try {
            return (int) m.invoke(x, all);
        } catch (IllegalAccessException | InvocationTargetException e) {
            Due.due("README.md: " + m + " answers", 0, 1);
            return 0;
        }
    }
}
