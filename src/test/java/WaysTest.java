/** Promises 17 to 20: way, part, meet, needed. */
final class WaysTest {
    static void run() {
        wayAnswers();
        fewestYardsThenLinesThenFirst();
        wayArguments();
        longestWay();
        part();
        meet();
        needed();
    }

    private static void way(ChalkRoads x, int a, int b, int yards, int... lines) {
        String name = "way(" + a + ", " + b + ")";
        Due.due(name + " yards", x.way(a, b, 0), yards);
        Due.due(name + " lines", x.way(a, b, 1), lines.length);
        for (int k = 0; k <= 8; k++) {
            Due.due(name + " line " + k, x.way(a, b, 10 + k), k < lines.length ? lines[k] : -4);
        }
    }

    private static void noWay(ChalkRoads x, int a, int b) {
        for (int what : new int[] {0, 1, 10, 18}) {
            Due.due("no way(" + a + ", " + b + ", " + what + ")", x.way(a, b, what), -4);
        }
    }

    private static void wayAnswers() {
        ChalkRoads x = Due.told("points 6; line 0 1 5 1; line 1 2 5 1; line 2 0 9 1; line 3 2 1 2 roof;"
            + " line 3 4 1 0;");
        way(x, 0, 1, 5, 0);
        way(x, 1, 0, 5, 0);
        way(x, 0, 2, 9, 2);
        way(x, 1, 3, 6, 1, 3);
        way(x, 3, 1, 6, 3, 1);
        way(x, 0, 3, 10, 2, 3);
        noWay(x, 3, 4);
        noWay(x, 5, 0);
        way(x, 5, 5, 0);
        x.rub(4, 1);
        way(x, 0, 4, 11, 2, 3, 4);
        x.rub(2, 0);
        way(x, 0, 4, 12, 0, 1, 3, 4);
        x.rub(3, 0);
        noWay(x, 0, 4);
    }

    private static void fewestYardsThenLinesThenFirst() {
        // fewest YARDS, though by more LINES
        ChalkRoads x = Due.told("line 0 3 9 1; line 0 1 2 1; line 1 2 3 1; line 2 3 3 1;");
        way(x, 0, 3, 8, 1, 2, 3);
        // of as many YARDS the fewest LINES, though its LINES are the later ones
        x = Due.told("line 0 1 2 1; line 1 2 2 1; line 2 3 2 1; line 0 4 3 1; line 4 3 3 1;");
        way(x, 0, 3, 6, 3, 4);
        // of as many LINES the first by LINES, from where he goes
        x = Due.told("line 1 3 2 1; line 0 2 2 1; line 0 1 2 1; line 2 3 2 1;");
        way(x, 0, 3, 4, 1, 3);
        way(x, 3, 0, 4, 0, 2);
        // the same ones between the same POINTS
        x = Due.told("line 0 1 2 1; line 1 0 2 1; line 1 2 1 0; line 2 1 1 1;");
        way(x, 0, 2, 3, 0, 3);
        x.rub(0, 0);
        way(x, 0, 2, 3, 1, 3);
    }

    private static void wayArguments() {
        ChalkRoads x = Due.told("points 3; line 0 1 1 1;");
        Due.due("way(3, 0, 0)", x.way(3, 0, 0), -1);
        Due.due("way(0, 3, 0)", x.way(0, 3, 0), -1);
        Due.due("way(-1, 0, 0)", x.way(-1, 0, 0), -1);
        Due.due("way(0, -1, 0)", x.way(0, -1, 0), -1);
        for (int what : new int[] {-1, 2, 9, 19}) {
            Due.due("way(0, 1, " + what + ")", x.way(0, 1, what), -1);
            Due.due("way(0, 2, " + what + ")", x.way(0, 2, what), -1);
        }
    }

    private static void longestWay() {
        StringBuilder text = new StringBuilder("points 9;");
        for (int l = 7; l >= 0; l--) {
            text.append("line ").append(l).append(' ').append(l + 1).append(" 9 1;");
        }
        ChalkRoads x = Due.told(text.toString());
        way(x, 0, 8, 72, 7, 6, 5, 4, 3, 2, 1, 0);
        way(x, 8, 0, 72, 0, 1, 2, 3, 4, 5, 6, 7);
        Due.due("part(4)", x.part(4), 511);
    }

    private static void part() {
        ChalkRoads x = Due.told("points 6; line 4 1 1 1; line 1 3 1 1; line 0 2 1 1; line 2 3 1 0;");
        Due.due("part(0)", x.part(0), 5);
        Due.due("part(1)", x.part(1), 26);
        Due.due("part(3)", x.part(3), 26);
        Due.due("part(5)", x.part(5), 32);
        Due.due("part(6)", x.part(6), -1);
        Due.due("part(-1)", x.part(-1), -1);
        x.rub(3, 1);
        Due.due("part(0) joined", x.part(0), 31);
    }

    private static void meet() {
        ChalkRoads x = Due.told("points 6; house 1; house 4; line 4 0 1 0; line 0 1 1 0; line 1 4 1 1; line 2 3 1 9;");
        Due.due("meet(0)", x.meet(0), 0);
        Due.due("meet(1)", x.meet(1), 0);
        Due.due("meet(3)", x.meet(3), 1);
        Due.due("meet(4)", x.meet(4), 1);
        Due.due("meet(8)", x.meet(8), 0);
        Due.due("meet(15)", x.meet(15), 1);
        Due.due("meet(16)", x.meet(16), -1);
        Due.due("meet(-1)", x.meet(-1), -1);
        x.build(3, true);
        Due.due("meet(15) apart", x.meet(15), 0);
        x.build(3, false);
        x.build(4, false);
        Due.due("meet(0) of one", x.meet(0), 1);
        x.build(1, false);
        Due.due("meet(0) of none", x.meet(0), 1);
        Due.due("new meet(0)", new ChalkRoads().meet(0), 1);
        Due.due("new meet(1)", new ChalkRoads().meet(1), -1);
    }

    private static void needed() {
        ChalkRoads x = Due.told("points 6; house 0; house 3; line 0 1 1 1; line 1 2 1 1; line 2 1 1 1; line 2 3 1 1;"
            + " line 3 4 1 1; line 0 5 1 0;");
        Due.due("needed()", x.needed(), 9);
        x.build(4, true);
        Due.due("needed() of three", x.needed(), 25);
        x.rub(1, 0);
        Due.due("needed() without one of two", x.needed(), 29);
        x.rub(2, 0);
        Due.due("needed() apart", x.needed(), -2);
        x.build(0, false);
        Due.due("needed() of those who meet", x.needed(), 16);
        x.build(3, false);
        Due.due("needed() of one", x.needed(), 0);
        Due.due("new needed()", new ChalkRoads().needed(), 0);
    }
}
