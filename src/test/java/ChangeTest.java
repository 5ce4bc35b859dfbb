/** Promises 11 to 16: draw, rub, wet, cloud, build, plan. */
final class ChangeTest {
    static void run() {
        draw();
        rub();
        wet();
        cloud();
        build();
        plan();
    }

    private static void draw() {
        ChalkRoads x = Due.told("line 0 1 4 0; line 1 2 5 3 roof; drawer 9; drawer 4; drawer 3;");
        Due.due("draw(0, 1)", x.draw(0, 1), 4);
        Due.due("chalk(0)", x.chalk(0), 4);
        Due.due("strength drawn", x.line(1, 3), 9);
        Due.due("roof stays", x.line(1, 4), 1);
        Due.due("draw(0, 1) again", x.draw(0, 1), -2);
        Due.due("draw(2, 0)", x.draw(2, 0), -2);
        Due.due("chalk(2) stays", x.chalk(2), 3);
        Due.due("strength stays", x.line(0, 3), 0);
        Due.due("draw(0, 0)", x.draw(0, 0), 0);
        Due.due("strength of 0", x.line(0, 3), 9);
        Due.due("draw(1, 0) whole", x.draw(1, 0), 0);
        Due.due("chalk(1)", x.chalk(1), 0);
        Due.due("draw(3, 0)", x.draw(3, 0), -1);
        Due.due("draw(-1, 0)", x.draw(-1, 0), -1);
        Due.due("draw(1, 2)", x.draw(1, 2), -1);
        Due.due("draw(1, -1)", x.draw(1, -1), -1);
    }

    private static void rub() {
        ChalkRoads x = Due.told("line 0 1 4 0; line 1 2 5 3;");
        Due.due("rub(0, 9)", x.rub(0, 9), 0);
        Due.due("rub(0, 5)", x.rub(0, 5), 9);
        Due.due("rub(0, 0)", x.rub(0, 0), 5);
        Due.due("line(0, 3)", x.line(0, 3), 0);
        Due.due("rub(1, 10)", x.rub(1, 10), -1);
        Due.due("rub(1, -1)", x.rub(1, -1), -1);
        Due.due("line(1, 3)", x.line(1, 3), 3);
        Due.due("rub(2, 1)", x.rub(2, 1), -1);
        Due.due("rub(-1, 1)", x.rub(-1, 1), -1);
    }

    private static void wet() {
        ChalkRoads x = Due.told("line 0 1 1 1; line 0 1 1 1 roof; line 0 1 1 2; line 0 1 1 0; line 0 1 1 1;"
            + " line 0 1 1 0 roof;");
        Due.due("wet()", x.wet(), 17);
        long[] want = {0, 1, 1, 0, 0, 0};
        for (int l = 0; l < 6; l++) {
            Due.due("behind wet line(" + l + ", 3)", x.line(l, 3), want[l]);
        }
        Due.due("wet() 2", x.wet(), 4);
        Due.due("wet() 3", x.wet(), 0);
        Due.due("roof keeps", x.line(1, 3), 1);
        Due.due("new wet()", new ChalkRoads().wet(), 0);
    }

    private static void cloud() {
        ChalkRoads x = Due.told("rain 3;");
        Due.due("cloud(3, true)", x.cloud(3, true), 1);
        Due.due("cloud(3, false)", x.cloud(3, false), 1);
        Due.due("rain(3)", x.rain(3), 0);
        Due.due("cloud(3, false) again", x.cloud(3, false), 0);
        Due.due("cloud(1, true)", x.cloud(1, true), 0);
        Due.due("cloud(40, true)", x.cloud(40, true), 0);
        Due.due("rain(1)", x.rain(1), 1);
        Due.due("rain(40)", x.rain(40), 1);
        Due.due("rain(8)", x.rain(8), 0);
        Due.due("cloud(0, true)", x.cloud(0, true), -1);
        Due.due("cloud(41, true)", x.cloud(41, true), -1);
        Due.due("cloud(-1, false)", x.cloud(-1, false), -1);
    }

    private static void build() {
        ChalkRoads x = Due.told("points 4; house 2;");
        Due.due("build(2, true)", x.build(2, true), 1);
        Due.due("build(0, true)", x.build(0, true), 0);
        Due.due("build(3, true)", x.build(3, true), 0);
        Due.due("rule(4)", x.rule(4), 13);
        Due.due("build(2, false)", x.build(2, false), 1);
        Due.due("build(2, false) again", x.build(2, false), 0);
        Due.due("rule(4) less", x.rule(4), 9);
        Due.due("build(4, true)", x.build(4, true), -1);
        Due.due("build(-1, true)", x.build(-1, true), -1);
        Due.due("rule(4) stays", x.rule(4), 9);
    }

    private static void plan() {
        ChalkRoads x = Due.told("points 4; line 0 1 1 1 roof;");
        Due.due("plan(3, 0, 9)", x.plan(3, 0, 9), 1);
        long[] want = {3, 0, 9, 0, 0};
        for (int what = 0; what < 5; what++) {
            Due.due("line(1, " + what + ")", x.line(1, what), want[what]);
        }
        Due.due("plan(1, 1, 1)", x.plan(1, 1, 1), -1);
        Due.due("plan(4, 1, 1)", x.plan(4, 1, 1), -1);
        Due.due("plan(1, 4, 1)", x.plan(1, 4, 1), -1);
        Due.due("plan(-1, 1, 1)", x.plan(-1, 1, 1), -1);
        Due.due("plan(1, -1, 1)", x.plan(1, -1, 1), -1);
        Due.due("plan(1, 2, 0)", x.plan(1, 2, 0), -1);
        Due.due("plan(1, 2, 10)", x.plan(1, 2, 10), -1);
        Due.due("rule(1)", x.rule(1), 2);
        for (int l = 2; l < 12; l++) {
            Due.due("plan " + l, x.plan(1, 2, 1), l);
        }
        Due.due("plan 12", x.plan(1, 2, 1), -3);
        Due.due("plan BAD ahead of FULL", x.plan(1, 2, 10), -1);
        Due.due("rule(1) full", x.rule(1), 12);
        // a LINE more where an IMAGE had none under that number
        ChalkRoads y = Due.told("line 0 1 1 1 roof; line 0 1 1 1 roof;");
        Due.feed(y, "line 0 1 1 1;");
        Due.due("told less", y.text(), 1);
        Due.due("plan behind", y.plan(0, 1, 1), 1);
        Due.due("no roof", y.line(1, 4), 0);
    }
}
