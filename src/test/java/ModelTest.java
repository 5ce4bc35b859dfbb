import java.nio.charset.StandardCharsets;
import java.util.Random;

/** Holds ChalkRoads against Plain in runs of calls made by numbers that are always the same. */
final class ModelTest {
    private static final int RUNS = 600;
    /** A text behind it has up to 60 calls more: nothing is promised behind the 512th. */
    private static final int CALLS = 440;
    private static final int EDGE_PERCENT = 6;
    private static final int[] EDGES = {
        Integer.MIN_VALUE, Integer.MAX_VALUE, -1, -2, 12, 13, 40, 41, 60, 61, 64, 100, 4096, 1 << 30
    };

    private final Random random;
    private final String name;
    private final ChalkRoads x = new ChalkRoads();
    private final Plain plain = new Plain();
    private int calls = 0;

    private ModelTest(int seed) {
        random = new Random(seed);
        name = "run " + seed + ": ";
    }

    static void run() {
        for (int seed = 0; seed < RUNS; seed++) {
            ModelTest test = new ModelTest(seed);
            test.tell(seed % 4 == 3 ? test.manyLines() : test.goodText());
            while (test.calls < CALLS && Due.failed < 20) {
                test.call();
            }
        }
    }

    private int below(int n) {
        return random.nextInt(n);
    }

    /** From -1 to one too many, seldom something far off. */
    private int about(int n) {
        if (below(100) < EDGE_PERCENT) {
            return EDGES[below(EDGES.length)];
        }
        return below(100) < 90 ? below(n) : below(n + 2) - 1;
    }

    private void due(String call, int got, int want) {
        calls++;
        Due.due(name + call, got, want);
    }

    // ---- texts

    private String goodText() {
        int points = 2 + below(8);
        StringBuilder text = new StringBuilder();
        text.append("points ").append(points).append(';');
        for (int i = 0; i < points; i++) {
            if (below(3) == 0) {
                text.append("house ").append(i).append(';');
            }
        }
        int lines = below(13);
        for (int l = 0; l < lines; l++) {
            text.append(lineText(points, 1 + below(9)));
        }
        for (int d = below(6); d > 0; d--) {
            text.append("drawer ").append(below(4) == 0 ? below(51) : below(16)).append(';');
        }
        for (int p = below(6); p > 0; p--) {
            int a = below(points);
            text.append("one ").append(a).append(' ').append((a + 1 + below(points - 1)) % points);
            text.append(' ').append(below(5) == 0 ? below(41) : below(8)).append(';');
        }
        for (int q = 1; q <= 40; q++) {
            if (below(12) == 0) {
                text.append("rain ").append(q).append(';');
            }
        }
        return text.toString();
    }

    /** A thick net of few YARDS, in which many ways are alike. */
    private String manyLines() {
        int points = 3 + below(4);
        StringBuilder text = new StringBuilder("points " + points + ";house 0;house 1;");
        for (int l = 8 + below(5); l > 0; l--) {
            text.append(lineText(points, 1 + below(2)));
        }
        for (int p = 0; p < 5; p++) {
            text.append("one ").append(p % 2).append(' ').append(2 - p % 2).append(' ').append(p).append(';');
        }
        return text.append("drawer 4;drawer 5;drawer 3;").toString();
    }

    private String lineText(int points, int yards) {
        int a = below(points);
        int b = (a + 1 + below(points - 1)) % points;
        int strength = below(3) == 0 ? 0 : below(4) == 0 ? 9 : 1 + below(3);
        return "line " + a + " " + b + " " + yards + " " + strength + (below(4) == 0 ? " roof;" : ";");
    }

    /** One sign or two are put, taken or doubled somewhere. */
    private String spoiled(String text) {
        StringBuilder spoilt = new StringBuilder(text);
        String signs = " ;0123456789plineroofz./:`{A";
        for (int i = below(3); i >= 0 && spoilt.length() > 0; i--) {
            int at = below(spoilt.length());
            switch (below(4)) {
                case 0 -> spoilt.deleteCharAt(at);
                case 1 -> spoilt.insert(at, signs.charAt(below(signs.length())));
                case 2 -> spoilt.setCharAt(at, signs.charAt(below(signs.length())));
                default -> {
                    int end = Math.min(spoilt.length(), at + 1 + below(14));
                    spoilt.insert(at, spoilt.substring(at, end));
                }
            }
        }
        return spoilt.toString();
    }

    private void tell(String text) {
        byte[] bytes = text.getBytes(StandardCharsets.ISO_8859_1);
        for (int i = 0; i < bytes.length; i += 8) {
            long v = 0;
            for (int k = i; k < i + 8; k++) {
                v = v << 8 | (k < bytes.length ? bytes[k] & 255 : ' ');
            }
            due("feed", x.feed(v), plain.feed(v));
        }
        int end = Math.min(400, bytes.length);
        due("end(" + end + ")", x.end(end), plain.end(end));
        due("text() of " + text, x.text(), plain.text());
        due("fault()", x.fault(), plain.fault());
    }

    // ---- calls

    private void call() {
        int kind = below(100);
        if (kind < 2) {
            callText();
        } else if (kind < 12) {
            callTold();
        } else if (kind < 32) {
            callChange();
        } else if (kind < 46) {
            callWays();
        } else if (kind < 64) {
            callRun();
        } else if (kind < 70) {
            callDawns();
        } else if (kind < 84) {
            callBreaks();
        } else {
            callSheets();
        }
    }

    private int someLines() {
        return about(1 << plain.rule(1));
    }

    private void callText() {
        switch (below(6)) {
            case 0 -> tell(goodText());
            case 1 -> tell(manyLines());
            case 2 -> {
                long v = random.nextLong();
                due("feed(" + v + ")", x.feed(v), plain.feed(v));
            }
            case 3 -> {
                int n = about(20);
                due("end(" + n + ")", x.end(n), plain.end(n));
            }
            default -> tell(spoiled(goodText()));
        }
    }

    private void callTold() {
        int i = about(12);
        int what = about(5);
        switch (below(5)) {
            case 0 -> due("rule(" + what + ")", x.rule(what), plain.rule(what));
            case 1 -> due("line(" + i + ", " + what + ")", x.line(i, what), plain.line(i, what));
            case 2 -> due("chalk(" + i + ")", x.chalk(i), plain.chalk(i));
            case 3 -> due("one(" + i + ", " + what + ")", x.one(i, what), plain.one(i, what));
            default -> {
                int q = about(41);
                due("rain(" + q + ")", x.rain(q), plain.rain(q));
            }
        }
    }

    private void callChange() {
        int l = about(Math.max(1, plain.rule(1)));
        int d = about(5);
        boolean is = random.nextBoolean();
        switch (below(7)) {
            case 0 -> due("draw(" + d + ", " + l + ")", x.draw(d, l), plain.draw(d, l));
            case 1, 2 -> {
                int v = about(below(2) == 0 ? 3 : 10);
                due("rub(" + l + ", " + v + ")", x.rub(l, v), plain.rub(l, v));
            }
            case 3 -> due("wet()", x.wet(), plain.wet());
            case 4 -> {
                int q = about(below(2) == 0 ? 12 : 41);
                due("cloud(" + q + ", " + is + ")", x.cloud(q, is), plain.cloud(q, is));
            }
            case 5 -> {
                int i = about(9);
                due("build(" + i + ", " + is + ")", x.build(i, is), plain.build(i, is));
            }
            default -> {
                int a = about(9);
                int b = about(9);
                int yards = about(10);
                due("plan(" + a + ", " + b + ", " + yards + ")", x.plan(a, b, yards), plain.plan(a, b, yards));
            }
        }
    }

    private void callWays() {
        int a = about(plain.rule(0));
        int b = about(plain.rule(0));
        switch (below(6)) {
            case 0, 1, 2 -> {
                int what = below(3) == 0 ? about(20) : below(2) == 0 ? below(2) : 10 + below(5);
                due("way(" + a + ", " + b + ", " + what + ")", x.way(a, b, what), plain.way(a, b, what));
            }
            case 3 -> due("part(" + a + ")", x.part(a), plain.part(a));
            case 4 -> {
                int some = someLines();
                due("meet(" + some + ")", x.meet(some), plain.meet(some));
            }
            default -> due("needed()", x.needed(), plain.needed());
        }
    }

    private void callRun() {
        int p = about(5);
        int l = about(Math.max(1, plain.rule(1)));
        int q = about(below(2) == 0 ? 15 : 61);
        switch (below(24)) {
            case 0, 1, 2, 3, 4, 5 -> due("where(" + p + ", " + q + ")", x.where(p, q), plain.where(p, q));
            case 6, 7, 8, 9 -> due("strength(" + l + ", " + q + ")", x.strength(l, q), plain.strength(l, q));
            case 10, 11, 12 -> due("comes(" + p + ")", x.comes(p), plain.comes(p));
            case 13, 14, 15 -> due("waited(" + p + ", " + q + ")", x.waited(p, q), plain.waited(p, q));
            case 16, 17, 18 -> due("lost(" + q + ")", x.lost(q), plain.lost(q));
            case 19, 20, 21 -> due("storm(" + q + ")", x.storm(q), plain.storm(q));
            default -> {
                int what = about(2);
                due("worst(" + what + ")", x.worst(what), plain.worst(what));
            }
        }
    }

    private void callDawns() {
        int what = about(2);
        switch (below(4)) {
            case 0 -> due("dawn(" + what + ")", x.dawn(what), plain.dawn(what));
            case 1 -> due("sure(" + what + ")", x.sure(what), plain.sure(what));
            default -> {
                int some = someLines();
                if (Integer.bitCount(some) > 6 && below(8) > 0) {
                    some &= 0x33F;
                }
                int sharing = below(2) == 0 ? what : 10 + about(12);
                due("share(" + some + ", " + sharing + ")", x.share(some, sharing), plain.share(some, sharing));
            }
        }
    }

    private void callBreaks() {
        int some = someLines();
        int what = about(4);
        boolean came = random.nextBoolean();
        switch (below(6)) {
            case 0, 1 -> due("hear(" + some + ", " + came + ")", x.hear(some, came), plain.hear(some, came));
            case 2 -> {
                int n = about(9);
                due("forget(" + n + ")", x.forget(n), plain.forget(n));
            }
            case 3 -> due("breaks(" + what + ")", x.breaks(what), plain.breaks(what));
            case 4 -> due("known(" + what + ")", x.known(what), plain.known(what));
            default -> due("ask(" + what + ")", x.ask(what), plain.ask(what));
        }
    }

    private void callSheets() {
        int k = about(2);
        int lane = about(3);
        switch (below(16)) {
            case 0 -> due("keep(" + k + ")", x.keep(k), plain.keep(k));
            case 1 -> due("back(" + k + ")", x.back(k), plain.back(k));
            case 2, 3 -> {
                int n = about(below(3) == 0 ? 41 : 10);
                due("sheet(" + k + ", " + lane + ", " + n + ")", x.sheet(k, lane, n), plain.sheet(k, lane, n));
            }
            case 4, 5, 6, 7, 8, 9 -> {
                int i = about(10);
                int v = i % 2 == 1 ? about(2) : below(10) == 0 ? random.nextInt() : someLines();
                due("lay(" + k + ", " + i + ", " + v + ")", x.lay(k, i, v), plain.lay(k, i, v));
            }
            case 10, 11, 12 -> {
                int f = below(6) == 0 ? about(41) : 2 * below(4);
                int n = about(9);
                String call = "read(" + k + ", " + lane + ", " + f + ", " + n + ")";
                due(call, x.read(k, lane, f, n), plain.read(k, lane, f, n));
                due("torn()", x.torn(), plain.torn());
            }
            case 13 -> due("torn()", x.torn(), plain.torn());
            default -> {
                int what = about(5);
                due("count(" + what + ")", x.count(what), plain.count(what));
            }
        }
    }
}
