/** Objects that are made always the same: something of everything, and as much as may be. */
final class Worlds {
    /** Told by some(): six POINTS, five LINES, two DRAWERS, two PEOPLE. */
    static final String SOME = "points 6;house 0;house 3;line 0 1 2 3;line 1 2 3 0;line 2 3 4 1 roof;"
        + "line 0 3 9 2;line 3 4 1 1;drawer 7;drawer 3;one 0 3 1;one 3 0 2;rain 2;rain 5;";
    /** Stands on THE TAPE of some() when it is made. */
    static final String SOME_TAPE = "house 1;line 0 1 2 3 ;";
    /** Nine POINTS, twelve LINES, five DRAWERS, five PEOPLE: HOUSES and RAIN come by calls. */
    private static final String FULL = "points 9;" + "line0 1 9 9;".repeat(6) + "line7 8 9 9roof;".repeat(6)
        + "drawer50;".repeat(5) + "one8 7 40;".repeat(5);

    private Worlds() { }

    /** One IMAGE, three HEARD, a SHEET of each lane and one of nothing, FAULT 4, torn CAST. */
    static ChalkRoads some() {
        ChalkRoads x = new ChalkRoads();
        Due.feed(x, SOME);
        x.text();
        Due.feed(x, "points 2;points 2;");
        x.text();
        x.hear(3, false);
        x.hear(4, true);
        x.keep(0);
        x.hear(24, false);
        x.rub(0, 1);
        x.cloud(9, true);
        x.build(5, true);
        x.draw(0, 1);
        x.plan(4, 5, 6);
        cells(x, 0, 0, 1, 1, 2, 0, 0, 1);
        cells(x, 1, 1, 32, 0, 64, 1, 5);
        x.sheet(2, 2, 0);
        x.read(1, 0, 0, 1);
        Due.feed(x, SOME_TAPE);
        return x;
    }

    static void cells(ChalkRoads x, int k, int lane, int... cells) {
        x.sheet(k, lane, cells.length);
        for (int i = 0; i < cells.length; i++) {
            x.lay(k, i, cells[i]);
        }
    }

    /** No room for a byte, a LINE, a HOUSE, RAIN, what is HEARD, an IMAGE, a CELL more. */
    static ChalkRoads full() {
        ChalkRoads x = Due.told(FULL);
        for (int i = 0; i < 9; i++) {
            x.build(i, true);
        }
        for (int q = 1; q <= 40; q++) {
            x.cloud(q, true);
        }
        for (int i = 0; i < 8; i++) {
            x.hear(7 << i, i % 2 == 0);
        }
        x.keep(0);
        x.rub(11, 8);
        x.keep(1);
        for (int k = 0; k < 4; k++) {
            x.sheet(k, k % 3, 40);
            x.lay(k, 38, 2);
            x.lay(k, 39, 1);
        }
        Due.feed(x, fullTape());
        return x;
    }

    /** A text of 400 bytes that is taken: 42 lines, four blanks behind them. */
    static String fullTape() {
        StringBuilder text = new StringBuilder("line 0 1 1 1;".repeat(12));
        text.append("drawer 1;".repeat(5)).append("one 0 1 1;".repeat(5));
        for (int i = 0; i < 5; i++) {
            text.append("house ").append(i).append(';');
        }
        for (int q = 1; q <= 15; q++) {
            text.append(q < 10 ? "rain " : "rain").append(q).append(';');
        }
        return text.append("    ").toString();
    }
}
