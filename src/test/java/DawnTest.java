/** Promises 28 to 30: dawn, sure, share. */
final class DawnTest {
    static void run() {
        dawn();
        sure();
        share();
        shareOrders();
        shareArguments();
    }

    private static void dawn() {
        ChalkRoads x = Due.told("points 6; house 0; house 2; line 0 1 4 0; line 1 2 4 0; line 0 2 9 0; line 0 3 2 1;"
            + " line 3 2 6 0; line 5 4 1 0;");
        Due.due("dawn(0)", x.dawn(0), 6);
        Due.due("dawn(1)", x.dawn(1), 16);
        x.rub(3, 0);
        // 8 by lines 0, 1 and by 3, 4: the least bits
        Due.due("dawn(0) of several", x.dawn(0), 8);
        Due.due("dawn(1) of several", x.dawn(1), 3);
        x.rub(2, 1);
        Due.due("dawn(0) of none", x.dawn(0), 0);
        Due.due("dawn(1) of none", x.dawn(1), 0);
        x.rub(2, 0);
        x.build(4, true);
        Due.due("dawn(0) NONE", x.dawn(0), -4);
        Due.due("dawn(1) NONE", x.dawn(1), -4);
        Due.due("dawn(2)", x.dawn(2), -1);
        Due.due("dawn(-1)", x.dawn(-1), -1);
        Due.due("new dawn(0)", new ChalkRoads().dawn(0), 0);
        Due.due("new dawn(1)", new ChalkRoads().dawn(1), 0);
        Due.due("dawn keeps", x.count(0), 0);
        // YARDS count, not LINES
        x = Due.told("house 0; house 4; line 0 4 9 0; line 0 1 2 0; line 1 2 2 0; line 2 3 2 0; line 3 4 2 0;");
        Due.due("dawn(0) of four", x.dawn(0), 8);
        Due.due("dawn(1) of four", x.dawn(1), 30);
    }

    private static void sure() {
        ChalkRoads x = Due.told("house 0; house 2; line 0 1 4 0; line 1 2 4 0; line 0 2 9 0; line 2 0 7 0; line 0 2 9 0;");
        // 0, 1 and 3 are 15, 2 and 3 are 16, 3 and 4 are 16
        Due.due("sure(0)", x.sure(0), 15);
        Due.due("sure(1)", x.sure(1), 11);
        x.rub(0, 1);
        Due.due("sure(0) one whole", x.sure(0), 11);
        Due.due("sure(1) one whole", x.sure(1), 10);
        x.rub(0, 0);
        x.rub(2, 1);
        Due.due("sure(0) other whole", x.sure(0), 7);
        Due.due("sure(1) other whole", x.sure(1), 8);
        x.rub(4, 1);
        Due.due("sure(0) already", x.sure(0), 0);
        Due.due("sure(1) already", x.sure(1), 0);
        Due.due("sure(2)", x.sure(2), -1);
        Due.due("sure(-1)", x.sure(-1), -1);
        // by one LINE alone HOUSES MEET, but not without it
        x = Due.told("house 0; house 1; line 0 1 4 9;");
        Due.due("sure(0) NONE", x.sure(0), -4);
        Due.due("sure(1) NONE", x.sure(1), -4);
        Due.due("dawn(0)", x.dawn(0), 0);
        x = Due.told("house 0; line 0 1 4 9;");
        Due.due("sure(0) of one", x.sure(0), 0);
        // no LINES at all: there is none to do without, but they do not MEET
        x = Due.told("house 0; house 1;");
        Due.due("sure(0) of no lines", x.sure(0), -4);
        Due.due("sure(0) new", new ChalkRoads().sure(0), 0);
        // of several the least bits
        x = Due.told("house 0; house 1; line 0 1 3 0; line 0 1 3 0; line 0 1 3 0;");
        Due.due("sure(0) several", x.sure(0), 6);
        Due.due("sure(1) several", x.sure(1), 3);
    }

    private static void share() {
        ChalkRoads x = Due.told("line 0 1 4 0; line 0 1 5 9; line 0 1 6 0; line 0 1 9 0; drawer 5; drawer 9; drawer 10;");
        int[][] want = {
            // some, how many, who, then who draws lines 0 to 3
            {0, 0, 0, -4, -4, -4, -4},
            {1, 1, 1, 0, -4, -4, -4},
            {2, 1, 1, -4, 0, -4, -4},
            {3, 1, 2, 1, 1, -4, -4},
            {5, 1, 4, 2, -4, 2, -4},
            {8, 1, 2, -4, -4, -4, 1},
            {7, 2, 5, 2, 0, 2, -4},
            {13, 2, 6, 2, -4, 2, 1},
            {15, 3, 7, 2, 0, 2, 1},
        };
        for (int[] row : want) {
            Due.due("share(" + row[0] + ", 0)", x.share(row[0], 0), row[1]);
            Due.due("share(" + row[0] + ", 1)", x.share(row[0], 1), row[2]);
            for (int l = 0; l < 4; l++) {
                Due.due("share(" + row[0] + ", 1" + l + ")", x.share(row[0], 10 + l), row[3 + l]);
            }
        }
    }

    private static void shareOrders() {
        // two of three are enough: 0 and 1 are the least; LINE 0 to the first who can
        ChalkRoads x = Due.told("line 0 1 3 0; line 0 1 2 0; line 0 1 3 0; drawer 5; drawer 5; drawer 6;");
        Due.due("share(7, 0)", x.share(7, 0), 2);
        Due.due("share(7, 1)", x.share(7, 1), 3);
        Due.due("share(7, 10)", x.share(7, 10), 0);
        Due.due("share(7, 11)", x.share(7, 11), 0);
        Due.due("share(7, 12)", x.share(7, 12), 1);
        Due.due("share(5, 0)", x.share(5, 0), 1);
        Due.due("share(5, 1)", x.share(5, 1), 4);
        Due.due("share(5, 10)", x.share(5, 10), 2);
        Due.due("share(5, 11)", x.share(5, 11), -4);
        // the first by LINES can not take LINE 1 greedily: 4 and 4 to one, 3 and 3 and 2 to the other
        x = Due.told("line 0 1 3 0; line 0 1 4 0; line 0 1 3 0; line 0 1 4 0; line 0 1 2 0; drawer 8; drawer 8;");
        Due.due("share(31, 0)", x.share(31, 0), 2);
        int[] who = {0, 1, 0, 1, 0};
        for (int l = 0; l < 5; l++) {
            Due.due("share(31, 1" + l + ")", x.share(31, 10 + l), who[l]);
        }
        // the sum would do, but no way of giving them does
        x = Due.told("line 0 1 5 0; line 0 1 5 0; line 0 1 5 0; drawer 9; drawer 9;");
        Due.due("share(7, 0) NONE", x.share(7, 0), -4);
        Due.due("share(7, 1) NONE", x.share(7, 1), -4);
        Due.due("share(7, 10) NONE", x.share(7, 10), -4);
        Due.due("share(3, 1)", x.share(3, 1), 3);
        Due.due("chalk stays", x.chalk(0), 9);
        Due.due("strength stays", x.line(0, 3), 0);
    }

    private static void shareArguments() {
        ChalkRoads x = Due.told("line 0 1 1 0;".repeat(9) + "drawer 50; drawer 8; drawer 7;");
        Due.due("share(255, 0)", x.share(255, 0), 1);
        Due.due("share(511, 0)", x.share(511, 0), -1);
        Due.due("share(510, 0)", x.share(510, 0), 1);
        Due.due("share(512, 0)", x.share(512, 0), -1);
        Due.due("share(-1, 0)", x.share(-1, 0), -1);
        for (int what : new int[] {-1, 2, 9, 19, Integer.MIN_VALUE, Integer.MAX_VALUE}) {
            Due.due("share(1, " + what + ")", x.share(1, what), -1);
        }
        Due.due("share(1, 18)", x.share(1, 18), -4);
        Due.due("share(256, 18)", x.share(256, 18), 0);
        // nobody there: no LINES can be drawn by nobody, one can not
        x = Due.told("line 0 1 1 0;");
        Due.due("share(0, 0)", x.share(0, 0), 0);
        Due.due("share(0, 1)", x.share(0, 1), 0);
        Due.due("share(0, 10)", x.share(0, 10), -4);
        Due.due("share(1, 0)", x.share(1, 0), -4);
        Due.due("share(1, 11)", x.share(1, 11), -1);
        Due.due("new share(0, 0)", new ChalkRoads().share(0, 0), 0);
    }
}
