import java.util.ArrayList;
import java.util.List;
import java.util.function.Supplier;

/**
 * All that can be asked of an object, but fault() alone. Each part is asked of another object
 * that is made alike, since what is asked in one part changes what the next one would be
 * told, and since an object has 512 calls at most.
 */
final class Everything {
    private final List<String> all = new ArrayList<>();
    private ChalkRoads x;

    private Everything() { }

    static List<String> of(Supplier<ChalkRoads> made) {
        Everything e = new Everything();
        e.x = made.get();
        e.told();
        e.counts();
        e.x = made.get();
        e.ways();
        e.x = made.get();
        e.runs();
        e.x = made.get();
        e.heard();
        for (int k = 0; k < 2; k++) {
            e.x = made.get();
            e.image(k);
        }
        for (int k = 0; k < 4; k++) {
            for (int lane = 0; lane < 3; lane++) {
                e.x = made.get();
                e.sheet(k, lane);
            }
        }
        e.x = made.get();
        e.tape();
        return e.all;
    }

    private void add(String call, int answer) {
        all.add(call + " = " + answer);
    }

    private void told() {
        for (int what = 0; what < 5; what++) {
            add("rule(" + what + ")", x.rule(what));
        }
        for (int l = 0; l < x.rule(1); l++) {
            for (int what = 0; what < 5; what++) {
                add("line(" + l + ", " + what + ")", x.line(l, what));
            }
        }
        for (int d = 0; d < x.rule(2); d++) {
            add("chalk(" + d + ")", x.chalk(d));
        }
        for (int p = 0; p < x.rule(3); p++) {
            for (int what = 0; what < 3; what++) {
                add("one(" + p + ", " + what + ")", x.one(p, what));
            }
        }
        for (int q = 1; q <= 40; q++) {
            add("rain(" + q + ")", x.rain(q));
        }
    }

    private void counts() {
        for (int what = 0; what < 5; what++) {
            add("count(" + what + ")", x.count(what));
        }
        add("torn()", x.torn());
    }

    private void ways() {
        int points = x.rule(0);
        for (int a = 0; a < points; a++) {
            add("part(" + a + ")", x.part(a));
            for (int b = 0; b < points; b++) {
                add("way(" + a + ", " + b + ", 0)", x.way(a, b, 0));
                add("way(" + a + ", " + b + ", 10)", x.way(a, b, 10));
            }
        }
        add("meet()", x.meet((1 << x.rule(1)) - 1));
        add("needed()", x.needed());
        add("dawn(1)", x.dawn(1));
        add("sure(1)", x.sure(1));
        add("share(7, 1)", x.share(7, 1));
    }

    private void runs() {
        for (int q = 0; q <= 60; q += 3) {
            add("lost(" + q + ")", x.lost(q));
            add("storm(" + q + ")", x.storm(q));
            for (int p = 0; p < x.rule(3); p++) {
                add("where(" + p + ", " + q + ")", x.where(p, q));
            }
        }
        for (int l = 0; l < x.rule(1); l++) {
            add("strength(" + l + ", 60)", x.strength(l, 60));
        }
        for (int p = 0; p < x.rule(3); p++) {
            add("comes(" + p + ")", x.comes(p));
            add("waited(" + p + ", 60)", x.waited(p, 60));
        }
        add("worst(0)", x.worst(0));
    }

    /** The last one is forgotten each time, so that each one is told by itself. */
    private void heard() {
        for (int n = x.count(1); n >= 0; n--) {
            add("forget(" + n + ")", x.forget(n));
            for (int what = 0; what < 4; what++) {
                add("breaks(" + what + ")", x.breaks(what));
            }
            add("known(0)", x.known(0));
            add("known(1)", x.known(1));
            add("ask(0)", x.ask(0));
        }
    }

    private void image(int k) {
        add("back(" + k + ")", x.back(k));
        told();
        counts();
        heard();
    }

    /**
     * Two CELLS are told by what is HEARD of them, if the LINES they tell are there; of nothing,
     * and of another lane, all CELLS are alike.
     */
    private void sheet(int k, int lane) {
        x.forget(0);
        x.read(k, lane, 0, 1);
        int cells = x.torn() == 1 || x.torn() == 3 ? 1 : 40;
        for (int f = 0; f < cells; f++) {
            x.forget(0);
            add("read(" + k + ", " + lane + ", " + f + ", 1)", x.read(k, lane, f, 1));
            add("torn()", x.torn());
            add("known(0)", x.known(0));
            add("known(1)", x.known(1));
            add("breaks(0)", x.breaks(0));
        }
    }

    private void tape() {
        add("text()", x.text());
        add("fault()", x.fault());
        told();
        counts();
    }
}
