import java.util.List;
import java.util.function.Supplier;
import java.util.function.ToIntFunction;

/**
 * "What is refused changes nothing (but THE TAPE, as told)": each call that can be refused, in
 * each way in which it can, and each call that only asks, then Everything is as without it.
 */
final class UnchangedTest {
    private static final int MIN = Integer.MIN_VALUE, MAX = Integer.MAX_VALUE;
    private static final int BAD = -1, STATE = -2, FULL = -3;

    private final String name;
    private final Supplier<ChalkRoads> made;
    private final List<String> before;
    private final int fault;

    private UnchangedTest(String name, Supplier<ChalkRoads> made) {
        this.name = name;
        this.made = made;
        before = Everything.of(made);
        fault = made.get().fault();
    }

    static void run() {
        UnchangedTest empty = new UnchangedTest("empty", ChalkRoads::new);
        UnchangedTest some = new UnchangedTest("some", Worlds::some);
        UnchangedTest full = new UnchangedTest("full", Worlds::full);
        for (UnchangedTest test : List.of(empty, some, full)) {
            test.wrongNumbers();
            test.asking();
        }
        empty.refusedByEmpty();
        some.refusedBySome();
        full.refusedByFull();
        new UnchangedTest("seven", UnchangedTest::sevenHeard).refusedBySeven();
        textRefused();
    }

    private void refused(String call, int want, ToIntFunction<ChalkRoads> asked) {
        same(call, asked, want, true);
    }

    private void asks(String call, ToIntFunction<ChalkRoads> asked) {
        same(call, asked, 0, false);
    }

    private void same(String call, ToIntFunction<ChalkRoads> asked, int want, boolean isDue) {
        ChalkRoads x = made.get();
        int answer = asked.applyAsInt(x);
        if (isDue) {
            Due.due(name + ": " + call, answer, want);
        }
        Due.due(name + ": fault() behind " + call, x.fault(), fault);
        Due.same(name + ": behind " + call, before, Everything.of(() -> {
            ChalkRoads y = made.get();
            asked.applyAsInt(y);
            return y;
        }));
    }

    /** BAD on both sides of what there is, in whatever world. */
    private void wrongNumbers() {
        ChalkRoads w = made.get();
        int points = w.rule(0);
        int lines = w.rule(1);
        int drawers = w.rule(2);
        int heard = w.count(1);
        int bytes = w.count(3);
        for (int n : new int[] {MIN, -1, bytes + 1, MAX}) {
            refused("end(" + n + ")", BAD, x -> x.end(n));
        }
        for (int d : new int[] {MIN, -1, drawers, MAX}) {
            refused("draw(" + d + ", 0)", BAD, x -> x.draw(d, 0));
        }
        for (int l : new int[] {MIN, -1, lines, MAX}) {
            refused("draw(0, " + l + ")", BAD, x -> x.draw(0, l));
            refused("rub(" + l + ", 5)", BAD, x -> x.rub(l, 5));
        }
        for (int v : new int[] {MIN, -1, 10, MAX}) {
            refused("rub(0, " + v + ")", BAD, x -> x.rub(0, v));
        }
        for (int q : new int[] {MIN, -1, 0, 41, 64, MAX}) {
            refused("cloud(" + q + ", true)", BAD, x -> x.cloud(q, true));
            refused("cloud(" + q + ", false)", BAD, x -> x.cloud(q, false));
        }
        for (int i : new int[] {MIN, -1, points, 32, MAX}) {
            refused("build(" + i + ", true)", BAD, x -> x.build(i, true));
            refused("build(" + i + ", false)", BAD, x -> x.build(i, false));
            refused("plan(" + i + ", 0, 1)", BAD, x -> x.plan(i, 0, 1));
            refused("plan(0, " + i + ", 1)", BAD, x -> x.plan(0, i, 1));
        }
        for (int i = 0; i < points; i++) {
            int alike = i;
            refused("plan(" + i + ", " + i + ", 1)", BAD, x -> x.plan(alike, alike, 1));
        }
        for (int yards : new int[] {MIN, -1, 0, 10, MAX}) {
            refused("plan(0, 1, " + yards + ")", BAD, x -> x.plan(0, 1, yards));
        }
        for (int some : new int[] {MIN, -1, 0, 1 << lines, MAX}) {
            refused("hear(" + some + ", true)", BAD, x -> x.hear(some, true));
            refused("hear(" + some + ", false)", BAD, x -> x.hear(some, false));
        }
        for (int n : new int[] {MIN, -1, heard + 1, MAX}) {
            refused("forget(" + n + ")", BAD, x -> x.forget(n));
        }
        wrongImagesAndSheets();
    }

    private void wrongImagesAndSheets() {
        for (int k : new int[] {MIN, -1, 2, MAX}) {
            refused("keep(" + k + ")", BAD, x -> x.keep(k));
            refused("back(" + k + ")", BAD, x -> x.back(k));
        }
        for (int k : new int[] {MIN, -1, 4, MAX}) {
            refused("sheet(" + k + ", 0, 3)", BAD, x -> x.sheet(k, 0, 3));
            refused("lay(" + k + ", 0, 1)", BAD, x -> x.lay(k, 0, 1));
            refused("read(" + k + ", 0, 0, 1)", BAD, x -> x.read(k, 0, 0, 1));
            refused("read(" + k + ", 0, 0, 0)", BAD, x -> x.read(k, 0, 0, 0));
        }
        for (int lane : new int[] {MIN, -1, 3, MAX}) {
            refused("sheet(0, " + lane + ", 3)", BAD, x -> x.sheet(0, lane, 3));
            refused("read(0, " + lane + ", 0, 1)", BAD, x -> x.read(0, lane, 0, 1));
            refused("read(0, " + lane + ", 0, 0)", BAD, x -> x.read(0, lane, 0, 0));
        }
        for (int k = 0; k < 4; k++) {
            int sheet = k;
            refused("sheet(" + k + ", 0, 41)", BAD, x -> x.sheet(sheet, 0, 41));
            refused("sheet(" + k + ", 0, MAX)", BAD, x -> x.sheet(sheet, 0, MAX));
            refused("sheet(" + k + ", 1, -1)", -14, x -> x.sheet(sheet, 1, -1));
            refused("sheet(" + k + ", 2, MIN)", -14, x -> x.sheet(sheet, 2, MIN));
        }
        for (int n : new int[] {MIN, -1, 9, MAX}) {
            refused("read(0, 0, 0, " + n + ")", BAD, x -> x.read(0, 0, 0, n));
        }
    }

    private void refusedByEmpty() {
        for (int k = 0; k < 4; k++) {
            int sheet = k;
            refused("lay(" + k + ", 0, 1)", -11, x -> x.lay(sheet, 0, 1));
        }
        for (int k = 0; k < 2; k++) {
            int image = k;
            refused("back(" + k + ")", STATE, x -> x.back(image));
        }
    }

    private void refusedBySome() {
        refused("draw(1, 3)", STATE, x -> x.draw(1, 3));
        refused("draw(0, 5)", STATE, x -> x.draw(0, 5));
        refused("back(1)", STATE, x -> x.back(1));
        refused("lay(0, 6, 9)", -12, x -> x.lay(0, 6, 9));
        refused("lay(0, -1, 9)", -12, x -> x.lay(0, -1, 9));
        refused("lay(1, MAX, 9)", -12, x -> x.lay(1, MAX, 9));
        refused("lay(1, MIN, 9)", -12, x -> x.lay(1, MIN, 9));
        refused("lay(2, 0, 9)", -12, x -> x.lay(2, 0, 9));
        refused("lay(3, 0, 9)", -11, x -> x.lay(3, 0, 9));
        refused("read, the second CELL is 2", -20, x -> x.read(0, 0, 1, 1));
        refused("read, the second CELL is 5", -20, x -> x.read(1, 1, 3, 1));
        refused("read, no LINES", -20, x -> x.read(0, 0, 4, 1));
        refused("read, no LINES behind two that are good", -22, x -> x.read(0, 0, 0, 3));
        refused("read, LINES that are not there", -20, x -> x.read(1, 1, 2, 1));
        refused("read, LINES that are not there behind some that are", -21, x -> x.read(1, 1, 0, 3));
        refused("needed()", STATE, ChalkRoads::needed);
    }

    /** Seven are HEARD: one more can come, and none of two does. */
    private void refusedBySeven() {
        refused("read, FULL behind one", -21, x -> x.read(0, 0, 0, 2));
        refused("read, FULL behind one, ahead of no LINES", -21, x -> x.read(0, 0, 0, 4));
    }

    private static ChalkRoads sevenHeard() {
        ChalkRoads x = Worlds.some();
        for (int i = 0; i < 4; i++) {
            x.hear(1 << i, false);
        }
        return x;
    }

    private void refusedByFull() {
        for (long v : new long[] {Long.MIN_VALUE, -1, 0, 0x2020202020202020L, Long.MAX_VALUE}) {
            refused("feed(" + v + ")", FULL, x -> x.feed(v));
        }
        refused("plan(0, 1, 1)", FULL, x -> x.plan(0, 1, 1));
        refused("plan(8, 7, 9)", FULL, x -> x.plan(8, 7, 9));
        for (int some : new int[] {1, 7, 2048, 4095}) {
            refused("hear(" + some + ", true)", FULL, x -> x.hear(some, true));
            refused("hear(" + some + ", false)", FULL, x -> x.hear(some, false));
        }
        for (int k = 0; k < 4; k++) {
            int sheet = k;
            refused("lay(" + k + ", 40, 1)", -12, x -> x.lay(sheet, 40, 1));
            refused("lay(" + k + ", -1, 1)", -12, x -> x.lay(sheet, -1, 1));
            refused("read(" + k + ") by FULL", -20, x -> x.read(sheet, sheet % 3, 38, 1));
        }
    }

    /** What only asks leaves all as it is, whatever it answers. */
    private void asking() {
        ChalkRoads w = made.get();
        int lines = w.rule(1);
        for (int what : new int[] {MIN, -1, 0, 1, 2, 3, 4, 5, MAX}) {
            asks("rule(" + what + ")", x -> x.rule(what));
            asks("line(0, " + what + ")", x -> x.line(0, what));
            asks("one(0, " + what + ")", x -> x.one(0, what));
            asks("breaks(" + what + ")", x -> x.breaks(what));
            asks("known(" + what + ")", x -> x.known(what));
            asks("ask(" + what + ")", x -> x.ask(what));
            asks("dawn(" + what + ")", x -> x.dawn(what));
            asks("sure(" + what + ")", x -> x.sure(what));
            asks("worst(" + what + ")", x -> x.worst(what));
            asks("count(" + what + ")", x -> x.count(what));
            asks("chalk(" + what + ")", x -> x.chalk(what));
            asks("way(0, 1, " + what + ")", x -> x.way(0, 1, what));
            asks("share(1, " + what + ")", x -> x.share(1, what));
            asks("part(" + what + ")", x -> x.part(what));
            asks("rain(" + what + ")", x -> x.rain(what));
        }
        asks("way(0, 3, 10)", x -> x.way(0, 3, 10));
        asks("way(0, 9, 10)", x -> x.way(0, 9, 10));
        asks("share(3, 10)", x -> x.share(3, 10));
        for (int some : new int[] {MIN, -1, 0, (1 << lines) - 1, 1 << lines, MAX}) {
            asks("meet(" + some + ")", x -> x.meet(some));
            asks("share(" + some + ", 1)", x -> x.share(some, 1));
        }
        asks("needed()", ChalkRoads::needed);
        asks("fault()", ChalkRoads::fault);
        asks("torn()", ChalkRoads::torn);
        for (int q : new int[] {MIN, -1, 0, 1, 30, 60, 61, MAX}) {
            asks("where(0, " + q + ")", x -> x.where(0, q));
            asks("strength(0, " + q + ")", x -> x.strength(0, q));
            asks("waited(0, " + q + ")", x -> x.waited(0, q));
            asks("lost(" + q + ")", x -> x.lost(q));
            asks("storm(" + q + ")", x -> x.storm(q));
            asks("comes(" + q + ")", x -> x.comes(q));
        }
    }

    /** THE TAPE is empty behind a FAULT, and the FAULT is told; all else stays, by each FAULT. */
    private static void textRefused() {
        String[] texts = {
            "points 2;house 0;line 0 1 1 1;drawer 50;one 0 1 40;rain 40;?",
            "points 2;house 0;line 0 1 1 1;drawer 50;one 0 1 40;rain 40;roof",
            "points 2;house 0;line 0 1 1 1;drawer 50;one 0 1 40;rain 41;",
            "points 2;house 0;line 0 1 1 1;drawer 50;one 0 1 40;rain 40;rain 40;",
            "points 2;house 0;line 0 1 1 1;" + "drawer 50;".repeat(6),
            "points 2;house 0;line 0 1 1 1;drawer 50;one 0 1 40;rain 40;house 2;",
        };
        for (Supplier<ChalkRoads> made : List.<Supplier<ChalkRoads>>of(ChalkRoads::new, Worlds::some, Worlds::full)) {
            List<String> before = Everything.of(() -> {
                ChalkRoads x = made.get();
                x.end(0);
                return x;
            });
            for (int fault = 1; fault <= 6; fault++) {
                String text = texts[fault - 1];
                Supplier<ChalkRoads> refused = () -> {
                    ChalkRoads x = made.get();
                    x.end(0);
                    Due.feed(x, text);
                    x.text();
                    return x;
                };
                Due.due("fault() of \"" + text + "\"", refused.get().fault(), fault);
                Due.same("behind \"" + text + "\"", before, Everything.of(refused));
            }
        }
    }
}
