/** Promises 36 to 42: images, sheets, read, torn, count. */
final class SheetsTest {
    static void run() {
        images();
        fullImage();
        sheet();
        lay();
        lanes();
        readFaults();
        readRefused();
        readAndTorn();
        readArguments();
        count();
    }

    private static void images() {
        ChalkRoads x = Due.told("points 4; house 1; line 0 1 2 3 roof; drawer 9; one 0 1 0; rain 5;");
        x.hear(1, false);
        Due.due("keep(0)", x.keep(0), 0);
        Due.due("count(2)", x.count(2), 1);
        x.build(2, true);
        x.build(1, false);
        x.plan(1, 2, 4);
        x.rub(0, 0);
        x.draw(0, 1);
        x.cloud(5, false);
        x.cloud(6, true);
        x.hear(2, true);
        Due.due("back(1)", x.back(1), -2);
        Due.due("keep(1)", x.keep(1), 0);
        Due.due("count(2) two", x.count(2), 2);
        Due.due("keep(2)", x.keep(2), -1);
        Due.due("keep(-1)", x.keep(-1), -1);
        Due.due("back(2)", x.back(2), -1);
        Due.due("back(-1)", x.back(-1), -1);
        Due.due("back(0)", x.back(0), 1);
        first(x);
        Due.due("back(1) kept", x.back(1), 2);
        Due.due("rule(4)", x.rule(4), 4);
        Due.due("line(0, 3)", x.line(0, 3), 0);
        Due.due("line(1, 3)", x.line(1, 3), 9);
        Due.due("line(1, 2)", x.line(1, 2), 4);
        Due.due("line(1, 0)", x.line(1, 0), 1);
        Due.due("line(1, 1)", x.line(1, 1), 2);
        Due.due("line(1, 4)", x.line(1, 4), 0);
        Due.due("chalk(0)", x.chalk(0), 5);
        Due.due("rain(5)", x.rain(5), 0);
        Due.due("rain(6)", x.rain(6), 1);
        Due.due("count(1)", x.count(1), 2);
        Due.due("breaks(0)", x.breaks(0), 1);
        // an IMAGE stays when all is as it, and is not what is changed behind
        Due.due("back(0) again", x.back(0), 1);
        x.rub(0, 7);
        x.hear(1, true);
        Due.due("back(0) third", x.back(0), 1);
        first(x);
        x.forget(0);
        Due.due("keep(0) over", x.keep(0), 1);
        Due.due("count(2) still", x.count(2), 2);
        x.hear(1, true);
        Due.due("back(0) over", x.back(0), 1);
        Due.due("count(1) over", x.count(1), 0);
    }

    /** As much as an IMAGE may have to keep. */
    private static void fullImage() {
        ChalkRoads x = Due.told("points 9; house 8;" + "line 0 1 1 1; ".repeat(11) + "line 7 8 9 9 roof;"
            + "drawer 1; drawer 2; drawer 3; drawer 4; drawer 50; one 0 1 0; one 0 1 0; one 0 1 0; one 0 1 0; one 7 8 40;"
            + "rain 40;");
        for (int i = 0; i < 7; i++) {
            x.hear(1 << i, true);
        }
        x.hear(1 << 11, false);
        x.keep(0);
        x.forget(0);
        for (int i = 0; i < 8; i++) {
            x.hear(4095, false);
        }
        x.draw(4, 11);
        x.rub(11, 4);
        x.build(8, false);
        x.cloud(40, false);
        x.keep(1);
        Due.due("back(0) full", x.back(0), 12);
        long[] line = {7, 8, 9, 9, 1};
        for (int what = 0; what < 5; what++) {
            Due.due("full line(11, " + what + ")", x.line(11, what), line[what]);
        }
        Due.due("full chalk(4)", x.chalk(4), 50);
        Due.due("full one(4, 2)", x.one(4, 2), 40);
        Due.due("full rule(4)", x.rule(4), 256);
        Due.due("full rain(40)", x.rain(40), 1);
        Due.due("full known(0)", x.known(0), 2048);
        Due.due("full known(1)", x.known(1), 127);
        Due.due("full back(1)", x.back(1), 12);
        Due.due("full breaks(0)", x.breaks(0), 4095);
        Due.due("full line(11, 3)", x.line(11, 3), 4);
    }

    private static void first(ChalkRoads x) {
        Due.due("first rule(0)", x.rule(0), 4);
        Due.due("first rule(1)", x.rule(1), 1);
        Due.due("first rule(2)", x.rule(2), 1);
        Due.due("first rule(3)", x.rule(3), 1);
        Due.due("first rule(4)", x.rule(4), 2);
        Due.due("first line(0, 0)", x.line(0, 0), 0);
        Due.due("first line(0, 1)", x.line(0, 1), 1);
        Due.due("first line(0, 2)", x.line(0, 2), 2);
        Due.due("first line(0, 3)", x.line(0, 3), 3);
        Due.due("first line(0, 4)", x.line(0, 4), 1);
        Due.due("first chalk(0)", x.chalk(0), 9);
        Due.due("first rain(5)", x.rain(5), 1);
        Due.due("first rain(6)", x.rain(6), 0);
        Due.due("first count(1)", x.count(1), 1);
        Due.due("first breaks(2)", x.breaks(2), 1);
        Due.due("first one(0, 1)", x.one(0, 1), 1);
    }

    private static void sheet() {
        ChalkRoads x = new ChalkRoads();
        Due.due("sheet(0, 0, 0)", x.sheet(0, 0, 0), 1);
        Due.due("count(4) of none", x.count(4), 0);
        Due.due("sheet(0, 2, 40)", x.sheet(0, 2, 40), 1);
        Due.due("count(4)", x.count(4), 40);
        Due.due("sheet(0, 1, 41)", x.sheet(0, 1, 41), -1);
        Due.due("sheet(0, 1, -1)", x.sheet(0, 1, -1), -14);
        Due.due("sheet(0, 1, min)", x.sheet(0, 1, Integer.MIN_VALUE), -14);
        Due.due("count(4) stays", x.count(4), 40);
        Due.due("sheet(4, 0, 1)", x.sheet(4, 0, 1), -1);
        Due.due("sheet(-1, 0, 1)", x.sheet(-1, 0, 1), -1);
        Due.due("sheet(0, 3, 1)", x.sheet(0, 3, 1), -1);
        Due.due("sheet(0, -1, 1)", x.sheet(0, -1, 1), -1);
        Due.due("sheet(4, 0, -1)", x.sheet(4, 0, -1), -1);
        Due.due("sheet(0, 3, -1)", x.sheet(0, 3, -1), -1);
        Due.due("sheet(1, 0, -1)", x.sheet(1, 0, -1), -14);
        Due.due("lay(1) still nothing", x.lay(1, 0, 1), -11);
        Due.due("sheet(3, 0, 1)", x.sheet(3, 0, 1), 1);
        Due.due("count(4) is of sheet 0", x.count(4), 40);
    }

    private static void lay() {
        ChalkRoads x = Due.told("line 0 1 1 1; line 0 1 1 1;");
        x.sheet(0, 0, 3);
        x.sheet(1, 0, 40);
        Due.due("lay(0, 0, 1)", x.lay(0, 0, 1), 1);
        Due.due("lay(0, 2, 1)", x.lay(0, 2, 1), 1);
        Due.due("lay(0, 3, 1)", x.lay(0, 3, 1), -12);
        Due.due("lay(0, -1, 1)", x.lay(0, -1, 1), -12);
        Due.due("lay(1, 39, 1)", x.lay(1, 39, 1), 1);
        Due.due("lay(1, 40, 1)", x.lay(1, 40, 1), -12);
        Due.due("lay(2, 0, 1)", x.lay(2, 0, 1), -11);
        Due.due("lay(3, -1, 1)", x.lay(3, -1, 1), -11);
        Due.due("lay(4, 0, 1)", x.lay(4, 0, 1), -1);
        Due.due("lay(-1, 0, 1)", x.lay(-1, 0, 1), -1);
        // a SHEET is a new row: CELLS are 0 again
        Due.due("read laid", x.read(0, 0, 0, 1), 1);
        Due.due("sheet anew", x.sheet(0, 0, 3), 1);
        Due.due("read anew", x.read(0, 0, 0, 1), -20);
        for (int k = 0; k < 4; k++) {
            allCellsAnew(k);
        }
        // no CELL of one is one of another
        x.sheet(0, 2, 40);
        x.sheet(1, 2, 40);
        x.lay(0, 39, 3);
        Due.due("sheet 1 untouched", x.read(1, 2, 0, 1), -20);
        x.lay(1, 0, 2);
        Due.due("sheet 0 untouched", x.read(0, 2, 38, 1), -20);
    }

    /** Each CELL of a new row is 0: LINES 0 are refused, and else 0 is that nobody came. */
    private static void allCellsAnew(int k) {
        for (int i = 0; i < 40; i++) {
            ChalkRoads x = Due.told("line 0 1 1 1; line 0 1 1 1;");
            x.sheet(k, 2, 40);
            for (int c = 0; c < 40; c++) {
                x.lay(k, c, 1);
            }
            x.sheet(k, 2, 40);
            if (i % 2 == 0) {
                x.lay(k, i + 1, 1);
                Due.due("cell " + i + " of sheet " + k, x.read(k, 2, i, 1), -20);
            } else {
                x.lay(k, i - 1, 1);
                Due.due("cells to " + i + " of sheet " + k, x.read(k, 2, i - 1, 1), 1);
                Due.due("cell " + i + " of sheet " + k, x.known(0), 1);
            }
        }
    }

    /** What is laid is cut to the lane's lowest bits, with a sign. */
    private static void lanes() {
        ChalkRoads x = Due.told("line 0 1 1 1;".repeat(12));
        int[] laid = {257, 255, 128, 127, 65537, 65535, 32768, 2048, -255};
        // the LINES that are read of it by each lane; 0: refused by hear()
        int[][] lines = {
            {1, 0, 0, 127, 1, 0, 0, 0, 1},
            {257, 255, 128, 127, 1, 0, 0, 2048, 0},
            {257, 255, 128, 127, 0, 0, 0, 2048, 0},
        };
        for (int lane = 0; lane < 3; lane++) {
            for (int i = 0; i < laid.length; i++) {
                x.sheet(lane, lane, 2);
                x.lay(lane, 0, laid[i]);
                x.forget(0);
                String name = "read of " + laid[i] + " in lane " + lane;
                Due.due(name, x.read(lane, lane, 0, 1), lines[lane][i] == 0 ? -20 : 1);
                if (lines[lane][i] != 0) {
                    Due.due(name + " as lines", x.breaks(0), 4096 - (1 << 12 - Integer.bitCount(lines[lane][i])));
                }
            }
            x.forget(0);
            x.sheet(lane, lane, 2);
            x.lay(lane, 0, 1);
            x.lay(lane, 1, lane == 0 ? 257 : lane == 1 ? 65537 : 1);
            Due.due("came cut in lane " + lane, x.read(lane, lane, 0, 1), 1);
            Due.due("came in lane " + lane, x.known(1), 1);
        }
    }

    private static ChalkRoads twoHeards() {
        ChalkRoads x = Due.told("line 0 1 1 1; line 0 1 1 1; line 0 1 1 1;");
        x.sheet(0, 1, 5);
        int[] cells = {3, 1, 4, 0, 7};
        for (int i = 0; i < 5; i++) {
            x.lay(0, i, cells[i]);
        }
        return x;
    }

    private static void readFaults() {
        ChalkRoads x = twoHeards();
        Due.due("read(0, 1, 0, 3)", x.read(0, 1, 0, 3), 2);
        Due.due("torn INDEX", x.torn(), 2);
        Due.due("breaks(2)", x.breaks(2), 4);
        Due.due("known(1)", x.known(1), 3);
        Due.due("read CAST", x.read(0, 0, 0, 2), 0);
        Due.due("torn CAST", x.torn(), 3);
        Due.due("read CAST 2", x.read(0, 2, 0, 2), 0);
        Due.due("torn CAST 2", x.torn(), 3);
        Due.due("read NULL", x.read(1, 1, 0, 2), 0);
        Due.due("torn NULL", x.torn(), 1);
        Due.due("read whole", x.read(0, 1, 2, 1), 1);
        Due.due("torn none", x.torn(), 0);
        Due.due("heard", x.count(1), 3);
        for (int f : new int[] {-1, -2, 4, 5, 40, 1000, Integer.MIN_VALUE, Integer.MAX_VALUE, Integer.MAX_VALUE - 1}) {
            Due.due("read f " + f, x.read(0, 1, f, 8), 0);
            Due.due("torn f " + f, x.torn(), 2);
            Due.due("read f of none " + f, x.read(0, 1, f, 0), 0);
            Due.due("torn f of none " + f, x.torn(), 0);
        }
        Due.due("heard still", x.count(1), 3);
        // of n 0: whatever the SHEET is
        x.read(1, 1, 0, 1);
        Due.due("read none of NULL", x.read(1, 1, 0, 0), 0);
        Due.due("torn none of NULL", x.torn(), 0);
        x.read(1, 1, 0, 1);
        Due.due("read none of CAST", x.read(0, 0, 0, 0), 0);
        Due.due("torn none of CAST", x.torn(), 0);
        // a SHEET without CELLS is not nothing
        x.sheet(2, 0, 0);
        Due.due("read of no cells", x.read(2, 0, 0, 1), 0);
        Due.due("torn of no cells", x.torn(), 2);
        Due.due("read CAST of no cells", x.read(2, 1, 0, 1), 0);
        Due.due("torn CAST of no cells", x.torn(), 3);
    }

    private static void readRefused() {
        ChalkRoads x = twoHeards();
        x.hear(1, false);
        x.read(1, 0, 0, 1);
        // from CELL 1 on: 1, 4 - its second CELL is neither 0 nor 1
        Due.due("second cell 4", x.read(0, 1, 1, 2), -20);
        x.lay(0, 3, -1);
        Due.due("second cell -1", x.read(0, 1, 0, 2), -21);
        x.lay(0, 3, 2);
        Due.due("second cell 2", x.read(0, 1, 0, 3), -21);
        x.lay(0, 3, 0);
        x.lay(0, 2, 8);
        Due.due("lines 8", x.read(0, 1, 0, 3), -21);
        x.lay(0, 2, 0);
        Due.due("lines 0", x.read(0, 1, 0, 3), -21);
        x.lay(0, 2, -1);
        Due.due("lines -1", x.read(0, 1, 0, 3), -21);
        Due.due("none came", x.count(1), 1);
        Due.due("torn is left", x.torn(), 1);
        Due.due("breaks are left", x.breaks(0), 4);
        // ahead of the refused one the machine refuses: then what was whole comes
        x.sheet(0, 1, 3);
        x.lay(0, 0, 2);
        x.lay(0, 2, 9);
        Due.due("half of a bad one", x.read(0, 1, 0, 2), 1);
        Due.due("torn half", x.torn(), 2);
        Due.due("breaks by it", x.breaks(2), 3);
    }

    /** FULL refuses as BAD does, and none comes. */
    private static void readAndTorn() {
        ChalkRoads x = Due.told("line 0 1 1 1; line 0 1 1 1; line 0 1 1 1;");
        x.sheet(3, 2, 40);
        for (int i = 0; i < 40; i += 2) {
            x.lay(3, i, 1 + i % 7);
        }
        Due.due("read eight", x.read(3, 2, 0, 8), 8);
        Due.due("count(1) eight", x.count(1), 8);
        Due.due("read a ninth", x.read(3, 2, 0, 1), -20);
        Due.due("forget(6)", x.forget(6), 8);
        Due.due("read three behind six", x.read(3, 2, 0, 3), -22);
        Due.due("count(1) six", x.count(1), 6);
        Due.due("read two behind six", x.read(3, 2, 38, 3), 1);
        Due.due("torn behind 39", x.torn(), 2);
        Due.due("count(1) seven", x.count(1), 7);
        Due.due("read one behind seven", x.read(3, 2, 36, 1), 1);
        Due.due("torn of one", x.torn(), 0);
        Due.due("read none behind eight", x.read(3, 2, 36, 0), 0);
    }

    private static void readArguments() {
        ChalkRoads x = twoHeards();
        x.read(1, 0, 0, 1);
        Due.due("read(4, 1, 0, 1)", x.read(4, 1, 0, 1), -1);
        Due.due("read(-1, 1, 0, 1)", x.read(-1, 1, 0, 1), -1);
        Due.due("read(0, 3, 0, 1)", x.read(0, 3, 0, 1), -1);
        Due.due("read(0, -1, 0, 1)", x.read(0, -1, 0, 1), -1);
        Due.due("read(0, 1, 0, 9)", x.read(0, 1, 0, 9), -1);
        Due.due("read(0, 1, 0, -1)", x.read(0, 1, 0, -1), -1);
        Due.due("read(4, 1, 0, 0)", x.read(4, 1, 0, 0), -1);
        Due.due("read(0, 3, 0, 0)", x.read(0, 3, 0, 0), -1);
        Due.due("torn left", x.torn(), 1);
        Due.due("count(1)", x.count(1), 0);
    }

    private static void count() {
        ChalkRoads x = Due.told("line 0 1 1 1; line 0 1 1 0; line 0 1 1 9;");
        x.feed(0);
        x.hear(1, true);
        x.hear(1, true);
        x.hear(1, true);
        x.keep(1);
        x.sheet(0, 1, 7);
        long[] want = {2, 3, 1, 8, 7};
        for (int what = 0; what < 5; what++) {
            Due.due("count(" + what + ")", x.count(what), want[what]);
        }
        Due.due("count(5)", x.count(5), -1);
        Due.due("count(-1)", x.count(-1), -1);
    }
}
