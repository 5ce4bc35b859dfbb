import java.util.function.IntPredicate;
import java.util.function.Supplier;

/**
 * Each number of each call: what is taken and what is BAD, for all small numbers, all powers
 * of two and what is beside them, and the ends of an int, in rocks with few and with as many
 * POINTS, LINES, DRAWERS and PEOPLE as may be.
 */
final class BoundsTest {
    private static final int BAD = -1;
    private static final int[] NUMBERS = numbers();

    /** A call with all its numbers but one. */
    private interface Call {
        int of(ChalkRoads x, int v);
    }

    private final String name;
    private final Supplier<ChalkRoads> made;
    private final int points;
    private final int lines;
    private final int drawers;
    private final int people;
    private final int heard;
    private final int bytes;

    private BoundsTest(String name, Supplier<ChalkRoads> made, int points, int lines, int drawers, int people,
            int heard, int bytes) {
        this.name = name;
        this.made = made;
        this.points = points;
        this.lines = lines;
        this.drawers = drawers;
        this.people = people;
        this.heard = heard;
        this.bytes = bytes;
    }

    static void run() {
        all(new BoundsTest("empty", ChalkRoads::new, 5, 0, 0, 0, 0, 0));
        all(new BoundsTest("least", BoundsTest::least, 2, 1, 1, 1, 0, 1));
        all(new BoundsTest("some", Worlds::some, 6, 6, 2, 2, 3, Worlds.SOME_TAPE.length()));
        all(new BoundsTest("full", Worlds::full, 9, 12, 5, 5, 8, 400));
    }

    private static ChalkRoads least() {
        ChalkRoads x = Due.told("points 2; line 1 0 1 0; drawer 0; one 1 0 0;");
        Due.feed(x, " ");
        return x;
    }

    private static void all(BoundsTest test) {
        test.told();
        test.changed();
        test.ways();
        test.runs();
        test.dawns();
        test.breaks();
        test.imagesAndSheets();
    }

    private static int[] numbers() {
        int[] all = new int[8 + 140 + 31 * 6];
        int n = 0;
        for (int v = -8; v < 140; v++) {
            all[n++] = v;
        }
        for (int k = 0; k < 31; k++) {
            for (int beside = -1; beside <= 1; beside++) {
                all[n++] = (1 << k) + beside;
                all[n++] = beside - (1 << k);
            }
        }
        all[0] = Integer.MIN_VALUE;
        all[1] = Integer.MIN_VALUE + 1;
        all[2] = Integer.MAX_VALUE;
        all[3] = Integer.MAX_VALUE - 1;
        return all;
    }

    /** What is taken is answered otherwise than by BAD: no answer else is -1. */
    private void taken(String call, IntPredicate isTaken, Call asked) {
        for (int v : NUMBERS) {
            int answer = asked.of(made.get(), v);
            Due.due(name + ": " + call + " with " + v + " is taken", answer != BAD ? 1 : 0, isTaken.test(v) ? 1 : 0);
        }
    }

    private static IntPredicate from(int least, int most) {
        return v -> v >= least && v <= most;
    }

    private static IntPredicate below(int n) {
        return from(0, n - 1);
    }

    private static IntPredicate none() {
        return v -> false;
    }

    /** Taken only if there is what the other numbers name. */
    private static IntPredicate ifThere(boolean is, IntPredicate taken) {
        return is ? taken : none();
    }

    private void told() {
        taken("end(v)", from(0, bytes), (x, v) -> x.end(v));
        taken("rule(v)", below(5), (x, v) -> x.rule(v));
        taken("line(v, 0)", below(lines), (x, v) -> x.line(v, 0));
        taken("line(last, v)", ifThere(lines > 0, below(5)), (x, v) -> x.line(lines - 1, v));
        taken("line(none, v)", none(), (x, v) -> x.line(lines, v));
        taken("chalk(v)", below(drawers), (x, v) -> x.chalk(v));
        taken("one(v, 0)", below(people), (x, v) -> x.one(v, 0));
        taken("one(last, v)", ifThere(people > 0, below(3)), (x, v) -> x.one(people - 1, v));
        taken("one(none, v)", none(), (x, v) -> x.one(people, v));
        taken("rain(v)", from(1, 40), (x, v) -> x.rain(v));
    }

    private void changed() {
        taken("draw(v, last)", ifThere(lines > 0, below(drawers)), (x, v) -> x.draw(v, lines - 1));
        taken("draw(last, v)", ifThere(drawers > 0, below(lines)), (x, v) -> x.draw(drawers - 1, v));
        taken("draw(none, v)", none(), (x, v) -> x.draw(drawers, v));
        taken("draw(v, none)", none(), (x, v) -> x.draw(v, lines));
        taken("rub(v, 9)", below(lines), (x, v) -> x.rub(v, 9));
        taken("rub(last, v)", ifThere(lines > 0, from(0, 9)), (x, v) -> x.rub(lines - 1, v));
        taken("rub(none, v)", none(), (x, v) -> x.rub(lines, v));
        taken("cloud(v, true)", from(1, 40), (x, v) -> x.cloud(v, true));
        taken("cloud(v, false)", from(1, 40), (x, v) -> x.cloud(v, false));
        taken("build(v, true)", below(points), (x, v) -> x.build(v, true));
        taken("build(v, false)", below(points), (x, v) -> x.build(v, false));
        for (int i = 0; i < points; i++) {
            int other = i;
            taken("plan(v, " + i + ", 9)", v -> v >= 0 && v < points && v != other, (x, v) -> x.plan(v, other, 9));
            taken("plan(" + i + ", v, 1)", v -> v >= 0 && v < points && v != other, (x, v) -> x.plan(other, v, 1));
        }
        taken("plan(v, v, 1)", none(), (x, v) -> x.plan(v, v, 1));
        taken("plan(0, last, v)", from(1, 9), (x, v) -> x.plan(0, points - 1, v));
        taken("plan(none, 0, v)", none(), (x, v) -> x.plan(points, 0, v));
        taken("plan(0, none, v)", none(), (x, v) -> x.plan(0, points, v));
    }

    private void ways() {
        for (int what : new int[] {0, 1, 10, 18}) {
            taken("way(v, last, " + what + ")", below(points), (x, v) -> x.way(v, points - 1, what));
            taken("way(last, v, " + what + ")", below(points), (x, v) -> x.way(points - 1, v, what));
            taken("way(v, none, " + what + ")", none(), (x, v) -> x.way(v, points, what));
        }
        IntPredicate isQuestion = v -> v == 0 || v == 1 || v >= 10 && v <= 18;
        taken("way(0, last, v)", isQuestion, (x, v) -> x.way(0, points - 1, v));
        taken("way(last, 0, v)", isQuestion, (x, v) -> x.way(points - 1, 0, v));
        taken("way(0, 0, v)", isQuestion, (x, v) -> x.way(0, 0, v));
        taken("part(v)", below(points), (x, v) -> x.part(v));
        taken("meet(v)", below(1 << lines), (x, v) -> x.meet(v));
    }

    private void runs() {
        taken("where(v, 0)", below(people), (x, v) -> x.where(v, 0));
        taken("where(v, 60)", below(people), (x, v) -> x.where(v, 60));
        taken("where(last, v)", ifThere(people > 0, from(0, 60)), (x, v) -> x.where(people - 1, v));
        taken("where(none, v)", none(), (x, v) -> x.where(people, v));
        taken("strength(v, 60)", below(lines), (x, v) -> x.strength(v, 60));
        taken("strength(last, v)", ifThere(lines > 0, from(0, 60)), (x, v) -> x.strength(lines - 1, v));
        taken("strength(none, v)", none(), (x, v) -> x.strength(lines, v));
        taken("comes(v)", below(people), (x, v) -> x.comes(v));
        taken("waited(v, 60)", below(people), (x, v) -> x.waited(v, 60));
        taken("waited(last, v)", ifThere(people > 0, from(0, 60)), (x, v) -> x.waited(people - 1, v));
        taken("waited(none, v)", none(), (x, v) -> x.waited(people, v));
        taken("lost(v)", from(0, 60), (x, v) -> x.lost(v));
        taken("storm(v)", from(0, 60), (x, v) -> x.storm(v));
        taken("worst(v)", below(2), (x, v) -> x.worst(v));
    }

    private void dawns() {
        taken("dawn(v)", below(2), (x, v) -> x.dawn(v));
        taken("sure(v)", below(2), (x, v) -> x.sure(v));
        IntPredicate eightAtMost = v -> v >= 0 && v < 1 << lines && Integer.bitCount(v) <= 8;
        taken("share(v, 0)", eightAtMost, (x, v) -> x.share(v, 0));
        taken("share(v, 1)", eightAtMost, (x, v) -> x.share(v, 1));
        taken("share(0, v)", v -> v == 0 || v == 1 || v >= 10 && v < 10 + lines, (x, v) -> x.share(0, v));
        taken("share(none, v)", none(), (x, v) -> x.share(1 << lines, v));
        if (lines > 0) {
            taken("share(1, v)", v -> v == 0 || v == 1 || v >= 10 && v < 10 + lines, (x, v) -> x.share(1, v));
            taken("share(v, 10)", eightAtMost, (x, v) -> x.share(v, 10));
        }
        for (int some = 0; some < 1 << lines; some++) {
            Due.due(name + ": share(" + some + ", 1) is taken", made.get().share(some, 1) != BAD ? 1 : 0,
                Integer.bitCount(some) <= 8 ? 1 : 0);
        }
    }

    private void breaks() {
        taken("hear(v, true)", from(1, (1 << lines) - 1), (x, v) -> x.hear(v, true));
        taken("hear(v, false)", from(1, (1 << lines) - 1), (x, v) -> x.hear(v, false));
        taken("forget(v)", from(0, heard), (x, v) -> x.forget(v));
        taken("breaks(v)", below(4), (x, v) -> x.breaks(v));
        taken("known(v)", below(2), (x, v) -> x.known(v));
        taken("ask(v)", below(2), (x, v) -> x.ask(v));
    }

    private void imagesAndSheets() {
        taken("keep(v)", below(2), (x, v) -> x.keep(v));
        taken("back(v)", below(2), (x, v) -> x.back(v));
        for (int i = 0; i < 3; i++) {
            int k = i;
            taken("sheet(v, " + k + ", 40)", below(4), (x, v) -> x.sheet(v, k, 40));
            taken("sheet(" + k + ", v, 40)", below(3), (x, v) -> x.sheet(k, v, 40));
            taken("sheet(" + k + ", 0, v)", v -> v <= 40, (x, v) -> x.sheet(k, 0, v));
            taken("sheet(v, " + k + ", -1)", below(4), (x, v) -> x.sheet(v, k, -1));
            taken("sheet(" + k + ", v, -1)", below(3), (x, v) -> x.sheet(k, v, -1));
            taken("read(" + k + ", v, 0, 1)", below(3), (x, v) -> x.read(k, v, 0, 1));
            taken("read(" + k + ", v, 0, 0)", below(3), (x, v) -> x.read(k, v, 0, 0));
            taken("read(v, " + k + ", 0, 8)", below(4), (x, v) -> x.read(v, k, 0, 8));
            taken("read(v, " + k + ", 0, 0)", below(4), (x, v) -> x.read(v, k, 0, 0));
            taken("read(" + k + ", 0, 0, v)", from(0, 8), (x, v) -> x.read(k, 0, 0, v));
            taken("read(" + k + ", 0, v, 8)", v -> true, (x, v) -> x.read(k, 0, v, 8));
            taken("lay(" + k + ", v, 1)", v -> true, (x, v) -> x.lay(k, v, 1));
            taken("lay(" + k + ", 0, v)", v -> true, (x, v) -> x.lay(k, 0, v));
        }
        taken("lay(v, 0, 1)", below(4), (x, v) -> x.lay(v, 0, 1));
        taken("count(v)", below(5), (x, v) -> x.count(v));
    }
}
