/** Promises 31 to 35: hear, forget, breaks, known, ask. */
final class BreaksTest {
    static void run() {
        hear();
        forget();
        breaks();
        firstOfTheFewest();
        known();
        ask();
    }

    private static ChalkRoads lines(int n) {
        return Due.told("line 0 1 1 1;".repeat(n));
    }

    private static void hear() {
        ChalkRoads x = lines(3);
        Due.due("hear(0)", x.hear(0, true), -1);
        Due.due("hear(8)", x.hear(8, true), -1);
        Due.due("hear(-1)", x.hear(-1, false), -1);
        for (int i = 1; i <= 8; i++) {
            Due.due("hear " + i, x.hear(7, i % 2 == 0), i);
        }
        Due.due("hear 9", x.hear(7, true), -3);
        Due.due("hear BAD ahead of FULL", x.hear(8, true), -1);
        Due.due("count(1)", x.count(1), 8);
        Due.due("new hear(1)", new ChalkRoads().hear(1, true), -1);
    }

    private static void forget() {
        ChalkRoads x = lines(3);
        x.hear(1, false);
        x.hear(2, true);
        x.hear(4, false);
        Due.due("forget(4)", x.forget(4), -1);
        Due.due("forget(-1)", x.forget(-1), -1);
        Due.due("breaks(2)", x.breaks(2), 5);
        Due.due("forget(3)", x.forget(3), 3);
        Due.due("forget(2)", x.forget(2), 3);
        Due.due("breaks(2) less", x.breaks(2), 1);
        // what is HEARD again is not what stood there
        Due.due("hear anew", x.hear(4, true), 3);
        Due.due("breaks(0) anew", x.breaks(0), 1);
        Due.due("forget(1)", x.forget(1), 3);
        Due.due("hear(2, false)", x.hear(2, false), 2);
        Due.due("breaks(2) anew", x.breaks(2), 3);
        Due.due("forget(0)", x.forget(0), 2);
        Due.due("breaks(0) all", x.breaks(0), 8);
        Due.due("forget(0) of none", x.forget(0), 0);
        Due.due("forget(1) of none", x.forget(1), -1);
    }

    private static void breaks() {
        ChalkRoads x = lines(4);
        long[] all = {16, 0, 0, 1};
        for (int what = 0; what < 4; what++) {
            Due.due("breaks(" + what + ") of nothing heard", x.breaks(what), all[what]);
        }
        x.hear(14, false);
        x.hear(7, false);
        // fewest: line 1 or line 2
        long[] some = {13, 1, 2, 2};
        for (int what = 0; what < 4; what++) {
            Due.due("breaks(" + what + ")", x.breaks(what), some[what]);
        }
        x.hear(6, true);
        // lines 0 and 3 alone
        long[] one = {1, 2, 9, 1};
        for (int what = 0; what < 4; what++) {
            Due.due("breaks(" + what + ") one", x.breaks(what), one[what]);
        }
        x.hear(8, true);
        long[] none = {0, -4, -4, 0};
        for (int what = 0; what < 4; what++) {
            Due.due("breaks(" + what + ") none", x.breaks(what), none[what]);
        }
        Due.due("breaks(4)", x.breaks(4), -1);
        Due.due("breaks(-1)", x.breaks(-1), -1);
        Due.due("new breaks(0)", new ChalkRoads().breaks(0), 1);
        Due.due("new breaks(1)", new ChalkRoads().breaks(1), 0);
        Due.due("new breaks(2)", new ChalkRoads().breaks(2), 0);
        Due.due("new breaks(3)", new ChalkRoads().breaks(3), 1);
        ChalkRoads y = lines(12);
        Due.due("breaks(0) of twelve", y.breaks(0), 4096);
        y.hear(4095, true);
        Due.due("breaks(0) of none broken", y.breaks(0), 1);
        // WHOLE or not does not matter
        y.rub(0, 0);
        Due.due("breaks(0) rubbed", y.breaks(0), 1);
    }

    /** By bits: 1 and 2 are 6, ahead of 0 and 3, which are 9. */
    private static void firstOfTheFewest() {
        ChalkRoads x = lines(4);
        x.hear(3, false);
        x.hear(12, false);
        x.hear(5, false);
        x.hear(10, false);
        Due.due("breaks(1)", x.breaks(1), 2);
        Due.due("breaks(2)", x.breaks(2), 6);
        Due.due("breaks(3)", x.breaks(3), 2);
    }

    private static void known() {
        ChalkRoads x = lines(4);
        Due.due("known(0) of nothing", x.known(0), 0);
        Due.due("known(1) of nothing", x.known(1), 0);
        x.hear(3, true);
        x.hear(5, false);
        Due.due("known(0)", x.known(0), 4);
        Due.due("known(1)", x.known(1), 3);
        x.hear(12, true);
        Due.due("known(0) NONE", x.known(0), -4);
        Due.due("known(1) NONE", x.known(1), -4);
        Due.due("known(2)", x.known(2), -1);
        Due.due("known(-1)", x.known(-1), -1);
        Due.due("new known(0)", new ChalkRoads().known(0), 0);
        Due.due("new known(1)", new ChalkRoads().known(1), 0);
    }

    private static void ask() {
        ChalkRoads x = lines(3);
        Due.due("ask(0) of nothing", x.ask(0), 0);
        Due.due("ask(1) of nothing", x.ask(1), 4);
        x.hear(3, false);
        // 6 left: line 0 broken in 4 of them, line 1 in 4, line 2 in 3
        Due.due("ask(0)", x.ask(0), 2);
        Due.due("ask(1)", x.ask(1), 3);
        x.hear(4, true);
        // 3 left: line 0 in 2, line 1 in 2
        Due.due("ask(0) of three", x.ask(0), 0);
        Due.due("ask(1) of three", x.ask(1), 2);
        x.hear(1, true);
        Due.due("ask(0) of one", x.ask(0), -4);
        Due.due("ask(1) of one", x.ask(1), -4);
        x.hear(2, true);
        Due.due("ask(0) of no breaks", x.ask(0), -4);
        Due.due("ask(1) of no breaks", x.ask(1), -4);
        Due.due("ask(2)", x.ask(2), -1);
        Due.due("ask(-1)", x.ask(-1), -1);
        Due.due("new ask(0)", new ChalkRoads().ask(0), -4);
        Due.due("new ask(1)", new ChalkRoads().ask(1), -4);
    }
}
