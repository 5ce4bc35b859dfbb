/** Promises 1 to 10: a new object, THE TAPE, a text and what it tells. */
final class TextTest {
    static void run() {
        newObject();
        tape();
        takenTexts();
        noToken();
        misplaced();
        bounds();
        twice();
        tooMany();
        noSuchPoint();
        firstFault();
        faultKeeps();
        takenReplaces();
        whatIsTold();
    }

    /** Promise 1. */
    private static void newObject() {
        ChalkRoads x = new ChalkRoads();
        Due.due("new rule(0)", x.rule(0), 5);
        for (int what = 1; what <= 4; what++) {
            Due.due("new rule(" + what + ")", x.rule(what), 0);
        }
        Due.due("new fault()", x.fault(), 0);
        Due.due("new torn()", x.torn(), 0);
        Due.due("new count(0)", x.count(0), 0);
        Due.due("new count(1)", x.count(1), 0);
        Due.due("new count(2)", x.count(2), 0);
        Due.due("new count(3)", x.count(3), 0);
        Due.due("new count(4)", x.count(4), ChalkRoads.NONE);
        for (int k = 0; k < 4; k++) {
            Due.due("new lay(" + k + ")", x.lay(k, 0, 0), -11);
        }
        for (int q = 1; q <= 40; q++) {
            Due.due("new rain(" + q + ")", x.rain(q), 0);
        }
        Due.due("new line(0)", x.line(0, 0), ChalkRoads.BAD);
        Due.due("new chalk(0)", x.chalk(0), ChalkRoads.BAD);
        Due.due("new one(0)", x.one(0, 0), ChalkRoads.BAD);
        Due.due("new back(0)", x.back(0), ChalkRoads.STATE);
        Due.due("new back(1)", x.back(1), ChalkRoads.STATE);
        Due.due("BAD", ChalkRoads.BAD, -1);
        Due.due("STATE", ChalkRoads.STATE, -2);
        Due.due("FULL", ChalkRoads.FULL, -3);
        Due.due("NONE", ChalkRoads.NONE, -4);
    }

    /** Promises 2 and 3. */
    private static void tape() {
        ChalkRoads x = new ChalkRoads();
        for (int i = 1; i <= 50; i++) {
            Due.due("feed " + i, x.feed(0x2020202020202020L), 8 * i);
        }
        Due.due("feed 51", x.feed(0x2020202020202020L), ChalkRoads.FULL);
        Due.due("count(3) full", x.count(3), 400);
        Due.due("end(401)", x.end(401), ChalkRoads.BAD);
        Due.due("end(-1)", x.end(-1), ChalkRoads.BAD);
        Due.due("end(400)", x.end(400), 400);
        Due.due("end(393)", x.end(393), 400);
        Due.due("feed at 393", x.feed(0), ChalkRoads.FULL);
        Due.due("end(392)", x.end(392), 393);
        Due.due("feed at 392", x.feed(0x2020202020202020L), 400);
        Due.due("text of 400 blanks", x.text(), 0);
        Due.due("end(1) of none", x.end(1), ChalkRoads.BAD);
        Due.due("end(0) of none", x.end(0), 0);
        // the highest byte first, and each one its own: house 3;
        Due.due("feed house 3;", x.feed(0x686f75736520333bL), 8);
        Due.due("text house 3;", x.text(), 1);
        Due.due("rule(4)", x.rule(4), 8);
        // a byte above 127 is none of the signs
        Due.due("feed high", x.feed(0xffA0B0C0D0E0F0BBL), 8);
        Due.due("text high", x.text(), -10);
        Due.due("fault high", x.fault(), 1);
        // what end() cuts off is gone for good
        Due.feed(x, "house 1;house 2;");
        Due.due("end(8)", x.end(8), 16);
        Due.due("feed behind", x.feed(0x2020202020202020L), 16);
        Due.due("text cut", x.text(), 1);
        Due.due("rule(4) cut", x.rule(4), 2);
    }

    private static void takenTexts() {
        Due.taken("", 0);
        Due.taken("   ", 0);
        Due.taken("points 9;", 1);
        Due.taken("points2;house1;line0 1 9 9roof;line 0 1 1 0;drawer50;one 0 1 40;rain40;", 7);
        Due.taken("  points   2  ;  house   1  ;  line 0   1 9 9  roof  ;  rain 1 ;  ", 4);
        Due.taken("points 02; house 01; line 00 01 01 00; drawer 00; one 01 00 00; rain 01;", 6);
        Due.taken("line 8 0 1 1; points 9; house 8; one 8 7 0;", 4);
        Due.taken("house 0;house 1;house 2;house 3;house 4;", 5);
        Due.taken("line 4 3 1 1;line 4 3 1 1;one 4 3 1;one 4 3 1;drawer 1;drawer 1;", 6);
    }

    /** FAULT 1. */
    private static void noToken() {
        Due.refused("points .5;", 7, 1);
        Due.refused("Points 5;", 0, 1);
        Due.refused("points 5,", 8, 1);
        Due.refused("points 5; _", 10, 1);
        Due.refused("points\t5;", 6, 1);
        Due.refused("points 005;", 7, 1);
        Due.refused("drawer 100;", 7, 1);
        Due.refused("  123", 2, 1);
        Due.refused("points 5 123;", 9, 1);
        Due.refused("line 0 1 1 1 {", 13, 1);
        Due.refused("line 0 1 1 1 `", 13, 1);
        Due.refused("line 0 1 1 /", 11, 1);
        Due.refused("line 0 1 1 :", 11, 1);
        Due.refused("\u0000", 0, 1);
        Due.refused("rain -1;", 5, 1);
        Due.refused("line 0 1 1 1 roof .", 18, 1);
    }

    /** FAULT 2. */
    private static void misplaced() {
        Due.refused("5;", 0, 2);
        Due.refused(";", 0, 2);
        Due.refused(" roof;", 1, 2);
        Due.refused("point 5;", 0, 2);
        Due.refused("pointss 5;", 0, 2);
        Due.refused("houses 5;", 0, 2);
        Due.refused("hous 5;", 0, 2);
        Due.refused("lines 0 1 1 1;", 0, 2);
        Due.refused("drawe 5;", 0, 2);
        Due.refused("on 0 1 1;", 0, 2);
        Due.refused("ruin 5;", 0, 2);
        Due.refused("a", 0, 2);
        Due.refused("points", 6, 2);
        Due.refused("points   ", 9, 2);
        Due.refused("points five;", 7, 2);
        Due.refused("points;", 6, 2);
        Due.refused("points 5", 8, 2);
        Due.refused("points 5 ", 9, 2);
        Due.refused("points 5 5;", 9, 2);
        Due.refused("points 5 house 1;", 9, 2);
        Due.refused("points 5;;", 9, 2);
        Due.refused("house", 5, 2);
        Due.refused("house x;", 6, 2);
        Due.refused("house 1", 7, 2);
        Due.refused("house 1 roof;", 8, 2);
        Due.refused("line", 4, 2);
        Due.refused("line x;", 5, 2);
        Due.refused("line 0", 6, 2);
        Due.refused("line 0;", 6, 2);
        Due.refused("line 0 1", 8, 2);
        Due.refused("line 0 1;", 8, 2);
        Due.refused("line 0 1 1", 10, 2);
        Due.refused("line 0 1 1;", 10, 2);
        Due.refused("line 0 1 1 1", 12, 2);
        Due.refused("line 0 1 1 1 1;", 13, 2);
        Due.refused("line 0 1 1 1 roofs;", 13, 2);
        Due.refused("line 0 1 1 1 rain;", 13, 2);
        Due.refused("line 0 1 1 1 roof", 17, 2);
        Due.refused("line 0 1 1 1 roof roof;", 18, 2);
        Due.refused("line 0 1 1 1 roof 1;", 18, 2);
        Due.refused("drawer", 6, 2);
        Due.refused("drawer x", 7, 2);
        Due.refused("drawer 5 5;", 9, 2);
        Due.refused("one", 3, 2);
        Due.refused("one 0", 5, 2);
        Due.refused("one 0;", 5, 2);
        Due.refused("one 0 1", 7, 2);
        Due.refused("one 0 1;", 7, 2);
        Due.refused("one 0 1 1", 9, 2);
        Due.refused("one 0 1 1 1;", 10, 2);
        Due.refused("rain", 4, 2);
        Due.refused("rain roof;", 5, 2);
        Due.refused("rain 1 roof;", 7, 2);
    }

    /** FAULT 3, and each bound itself. */
    private static void bounds() {
        Due.refused("points 1;", 7, 3);
        Due.refused("points 10;", 7, 3);
        Due.taken("points 2;", 1);
        Due.refused("house 9;", 6, 3);
        Due.refused("line 9 1 1 1;", 5, 3);
        Due.refused("line 1 9 1 1;", 7, 3);
        Due.refused("line 0 1 0 1;", 9, 3);
        Due.refused("line 0 1 10 1;", 9, 3);
        Due.refused("line 0 1 1 10;", 11, 3);
        Due.refused("drawer 51;", 7, 3);
        Due.refused("one 9 1 1;", 4, 3);
        Due.refused("one 1 9 1;", 6, 3);
        Due.refused("one 0 1 41;", 8, 3);
        Due.refused("rain 0;", 5, 3);
        Due.refused("rain 41;", 5, 3);
        Due.taken("rain 40;rain 1;", 2);
    }

    /** FAULT 4. */
    private static void twice() {
        Due.refused("points 5; points 5;", 10, 4);
        Due.refused("points 5; points 1;", 10, 4);
        Due.refused("points 5; points", 10, 4);
        Due.refused("line 0 0 1 1;", 7, 4);
        Due.refused("line 8 8 1 1;", 7, 4);
        Due.refused("one 3 3 1;", 6, 4);
        Due.refused("one 0 00 1;", 6, 4);
        Due.refused("house 1; house 2; house 1;", 24, 4);
        Due.refused("rain 7; rain 8; rain 07;", 21, 4);
    }

    /** FAULT 5, and as many as there may be. */
    private static void tooMany() {
        Due.taken("line 0 1 1 1;".repeat(12), 12);
        Due.refused("line 0 1 1 1;".repeat(12) + " line", 157, 5);
        Due.refused("line 0 1 1 1;".repeat(12) + "line 9 9 9 9;", 156, 5);
        Due.taken("drawer 1;".repeat(5), 5);
        Due.refused("drawer 1;".repeat(5) + "drawer 1;", 45, 5);
        Due.taken("one 0 1 1;".repeat(5), 5);
        Due.refused("one 0 1 1;".repeat(5) + "one 0 1 1;", 50, 5);
    }

    /** FAULT 6, behind all. */
    private static void noSuchPoint() {
        Due.refused("house 5; ", 9, 6);
        Due.taken("house 4; ", 1);
        Due.refused("line 5 0 1 1;", 13, 6);
        Due.refused("line 0 5 1 1;", 13, 6);
        Due.refused("one 5 0 1;", 10, 6);
        Due.refused("one 0 5 1;", 10, 6);
        Due.refused("house 8; points 8;", 18, 6);
        Due.refused("points 3; house 1; line 0 3 1 1; line 0 1 1 1;", 46, 6);
        Due.refused("points 3; house 3; house 1;", 27, 6);
        Due.refused("points 3; one 3 0 1; one 0 1 1;", 31, 6);
        Due.refused("house 5; house", 14, 2);
    }

    private static void firstFault() {
        Due.refused("points 1$", 7, 3);
        Due.refused("line 0 0$", 7, 4);
        Due.refused("house 9 house", 6, 3);
        Due.refused("points 5; points $", 10, 4);
        Due.refused("points 5 $ points 5;", 9, 1);
        Due.refused("house 5; points 1;", 16, 3);
    }

    /** A text that is refused leaves all that was told, but THE TAPE is empty. */
    private static void faultKeeps() {
        ChalkRoads x = Due.told("points 3; house 2; line 0 1 2 3 roof; drawer 4; one 0 2 5; rain 6;");
        x.hear(1, true);
        x.keep(1);
        x.sheet(0, 0, 3);
        Due.feed(x, "points 9; house 0; line 4 5 1 1; drawer 9; one 1 0 1; rain 1; house 0;");
        Due.due("text refused", x.text(), -10 - 68);
        Due.due("fault refused", x.fault(), 4);
        Due.due("rule(0) kept", x.rule(0), 3);
        Due.due("rule(1) kept", x.rule(1), 1);
        Due.due("rule(2) kept", x.rule(2), 1);
        Due.due("rule(3) kept", x.rule(3), 1);
        Due.due("rule(4) kept", x.rule(4), 4);
        Due.due("line(0, 4) kept", x.line(0, 4), 1);
        Due.due("chalk kept", x.chalk(0), 4);
        Due.due("one kept", x.one(0, 1), 2);
        Due.due("rain(1) kept", x.rain(1), 0);
        Due.due("rain(6) kept", x.rain(6), 1);
        Due.due("heard kept", x.count(1), 1);
        Due.due("images kept", x.count(2), 1);
        Due.due("tape emptied", x.count(3), 0);
        Due.due("next text", x.text(), 0);
        Due.due("next fault", x.fault(), 0);
    }

    /** A text that is taken tells all: what it does not tell is as at first. */
    private static void takenReplaces() {
        ChalkRoads x = Due.told("points 3; house 2; line 0 1 2 3 roof; drawer 4; one 0 2 5; rain 6;");
        x.hear(1, true);
        x.keep(0);
        x.keep(1);
        x.sheet(0, 0, 3);
        x.read(1, 0, 0, 1);
        Due.feed(x, "line 3 4 1 1;");
        Due.due("text taken", x.text(), 1);
        Due.due("rule(0) anew", x.rule(0), 5);
        Due.due("rule(1) anew", x.rule(1), 1);
        Due.due("rule(2) anew", x.rule(2), 0);
        Due.due("rule(3) anew", x.rule(3), 0);
        Due.due("rule(4) anew", x.rule(4), 0);
        Due.due("line(0, 4) anew", x.line(0, 4), 0);
        Due.due("rain(6) anew", x.rain(6), 0);
        Due.due("heard anew", x.count(1), 0);
        Due.due("images gone", x.count(2), 0);
        Due.due("back(0) gone", x.back(0), ChalkRoads.STATE);
        Due.due("back(1) gone", x.back(1), ChalkRoads.STATE);
        Due.due("sheets stay", x.count(4), 3);
        Due.due("torn stays", x.torn(), 1);
        Due.due("text of nothing", x.text(), 0);
        Due.due("rule(1) of nothing", x.rule(1), 0);
    }

    /** Promises 6 to 10. */
    private static void whatIsTold() {
        ChalkRoads x = Due.told("points 8; house 0; house 7; line 1 2 3 4; line 7 0 9 0 roof; drawer 0;"
            + " drawer 50; drawer 7; one 6 5 40; one 0 1 0; rain 1; rain 40;");
        long[] rules = {8, 2, 3, 2, 129};
        for (int what = 0; what < 5; what++) {
            Due.due("rule(" + what + ")", x.rule(what), rules[what]);
        }
        Due.due("rule(5)", x.rule(5), -1);
        Due.due("rule(-1)", x.rule(-1), -1);
        long[][] lines = {{1, 2, 3, 4, 0}, {7, 0, 9, 0, 1}};
        for (int l = 0; l < 2; l++) {
            for (int what = 0; what < 5; what++) {
                Due.due("line(" + l + ", " + what + ")", x.line(l, what), lines[l][what]);
            }
            Due.due("line(l, 5)", x.line(l, 5), -1);
            Due.due("line(l, -1)", x.line(l, -1), -1);
        }
        Due.due("line(2, 0)", x.line(2, 0), -1);
        Due.due("line(-1, 0)", x.line(-1, 0), -1);
        Due.due("chalk(0)", x.chalk(0), 0);
        Due.due("chalk(1)", x.chalk(1), 50);
        Due.due("chalk(2)", x.chalk(2), 7);
        Due.due("chalk(3)", x.chalk(3), -1);
        Due.due("chalk(-1)", x.chalk(-1), -1);
        long[][] ones = {{6, 5, 40}, {0, 1, 0}};
        for (int p = 0; p < 2; p++) {
            for (int what = 0; what < 3; what++) {
                Due.due("one(" + p + ", " + what + ")", x.one(p, what), ones[p][what]);
            }
            Due.due("one(p, 3)", x.one(p, 3), -1);
            Due.due("one(p, -1)", x.one(p, -1), -1);
        }
        Due.due("one(2, 0)", x.one(2, 0), -1);
        Due.due("one(-1, 0)", x.one(-1, 0), -1);
        for (int q = -1; q <= 42; q++) {
            long want = q < 1 || q > 40 ? -1 : q == 1 || q == 40 ? 1 : 0;
            Due.due("rain(" + q + ")", x.rain(q), want);
        }
        Due.due("rain(33)", x.rain(33), 0);
        Due.due("rain(65)", x.rain(65), -1);
    }
}
