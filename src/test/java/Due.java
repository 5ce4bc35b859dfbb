import java.nio.charset.StandardCharsets;
import java.util.List;

/** Counts answers, prints each that is not the one that is due, and tells texts. */
final class Due {
    static int passed = 0;
    static int failed = 0;

    static void due(String call, long got, long want) {
        if (got == want) {
            passed++;
            return;
        }
        failed++;
        System.out.println(call + " answered " + got + ", due is " + want);
    }

    /** Answers told one by one: the first that is not the one that is due is printed. */
    static void same(String name, List<String> want, List<String> got) {
        if (want.equals(got)) {
            passed++;
            return;
        }
        failed++;
        int i = 0;
        while (i < want.size() && i < got.size() && want.get(i).equals(got.get(i))) {
            i++;
        }
        System.out.println(name + ": " + (i < got.size() ? got.get(i) : "nothing more") + ", due is "
            + (i < want.size() ? want.get(i) : "nothing more"));
    }

    /** Feeds a text and cuts off what fills the last eight bytes. */
    static void feed(ChalkRoads x, String text) {
        feedBytes(x, text.getBytes(StandardCharsets.ISO_8859_1));
    }

    static void feedBytes(ChalkRoads x, byte[] bytes) {
        int before = x.count(3);
        for (int i = 0; i < bytes.length; i += 8) {
            long v = 0;
            for (int k = i; k < i + 8; k++) {
                v = v << 8 | (k < bytes.length ? bytes[k] & 255 : ' ');
            }
            x.feed(v);
        }
        x.end(before + bytes.length);
    }

    static ChalkRoads told(String text) {
        ChalkRoads x = new ChalkRoads();
        feed(x, text);
        int answer = x.text();
        if (answer < 0) {
            failed++;
            System.out.println("refused by " + x.fault() + " with " + answer + ": " + text);
        }
        return x;
    }

    /** What text() and fault() answer, and that nothing behind the FAULT is met any more. */
    static void refused(String text, int place, int fault) {
        refusedOnce(text, place, fault);
        if (place < text.length()) {
            refusedOnce(text + " ; house 1; 77 $ rain 0;", place, fault);
            refusedOnce(text + " $ points 1;", place, fault);
        }
    }

    private static void refusedOnce(String text, int place, int fault) {
        ChalkRoads x = new ChalkRoads();
        feed(x, text);
        due("text() of \"" + text + "\"", x.text(), -10 - place);
        due("fault() of \"" + text + "\"", x.fault(), fault);
        due("tape behind \"" + text + "\"", x.count(3), 0);
    }

    static void taken(String text, int lines) {
        ChalkRoads x = new ChalkRoads();
        feed(x, text);
        due("text() of \"" + text + "\"", x.text(), lines);
        due("fault() of \"" + text + "\"", x.fault(), 0);
        due("tape behind \"" + text + "\"", x.count(3), 0);
    }
}
