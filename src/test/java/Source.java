import java.io.IOException;
import java.nio.file.Files;
import java.nio.file.Path;
import java.util.ArrayDeque;
import java.util.ArrayList;
import java.util.Deque;
import java.util.List;
import java.util.regex.Matcher;
import java.util.regex.Pattern;

/** The text of src/main/java/ChalkRoads.java, and the methods in it, found by their braces. */
final class Source {
    /** A method or a constructor: what stands ahead of its first brace, and what is between its braces. */
    record Method(String header, String body) {
        String name() {
            return header.replaceFirst("(?s)^.*?(\\w+)\\s*\\(.*$", "$1");
        }

        boolean isConstructor() {
            return header.matches("(?s)(public |private )?\\w+\\s*\\(.*");
        }

        int parameters() {
            String between = header.substring(header.indexOf('(') + 1, header.lastIndexOf(')'));
            return between.isBlank() ? 0 : between.split(",").length;
        }

        int lines() {
            return (int) body.lines().count() + 1;
        }
    }

    /** As it stands in the file. */
    final String whole;
    /** Without comments, and with nothing between quotes. */
    final String bare;
    final List<Method> methods = new ArrayList<>();

    Source() {
        whole = read("src/main/java/ChalkRoads.java");
        bare = whole.replaceAll("(?s)/\\*.*?\\*/", "").replaceAll("//[^\n]*", "")
            .replaceAll("\"(\\\\.|[^\"\\\\])*\"", "\"\"").replaceAll("'(\\\\.|[^'\\\\])+'", "' '");
        findMethods();
    }

    static String read(String path) {
        try {
            return Files.readString(Path.of(path));
        } catch (IOException e) {
            Due.due("reading of " + path, 0, 1);
            return "";
        }
    }

    /** All that a pattern finds in the bare text. */
    List<String> found(String pattern) {
        return found(bare, pattern);
    }

    static List<String> found(String text, String pattern) {
        List<String> all = new ArrayList<>();
        Matcher m = Pattern.compile(pattern).matcher(text);
        while (m.find()) {
            all.add(m.group(m.groupCount() > 0 ? 1 : 0));
        }
        return all;
    }

    /** A block right inside a class, with a bracket ahead of its brace, is a method. */
    private void findMethods() {
        Deque<String> headers = new ArrayDeque<>();
        Deque<Integer> starts = new ArrayDeque<>();
        int behind = 0;
        for (int i = 0; i < bare.length(); i++) {
            char sign = bare.charAt(i);
            if (sign == '{') {
                headers.push(bare.substring(behind, i).strip());
                starts.push(i + 1);
            } else if (sign == '}') {
                String header = headers.pop();
                int start = starts.pop();
                boolean isInClass = !headers.isEmpty() && headers.peek().contains("class ");
                if (isInClass && header.contains("(")) {
                    methods.add(new Method(header, bare.substring(start, i)));
                }
            }
            if (sign == '{' || sign == '}' || sign == ';') {
                behind = i + 1;
            }
        }
    }
}
