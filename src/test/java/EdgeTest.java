/**
 * The sentences of the terms and of the promises 11 to 30 that name a bound: the least, the
 * most, none and all. Texts have tests of their own, in TokenTest; wrong numbers in BoundsTest.
 */
final class EdgeTest {
    private static final int BAD = -1, STATE = -2, FULL = -3, NONE = -4;

    private EdgeTest() { }

    static void run() {
        rubbedToNothing();
        drawnWithAllChalk();
        strengthsByRub();
        rainInEachQuarter();
        eachPointAHouse();
        plannedUpToTwelve();
        wetLines();
        wayOfEachLength();
        wayToItself();
        housesFewerThanTwo();
        housesAtTheEnds();
        neededAll();
        partOfEach();
        wayBehindAnotherText();
        startOfEachQuarter();
        yardsOfEachLength();
        rainInARun();
        allLostByRain();
        allLostByFeet();
        roofKeepsRainNotFeet();
        waitsFromTheStart();
        waitsOnTheWay();
        behindQuarterNoneAndSixty();
        comesBySixty();
        storms();
        worstQuarters();
        worstOfAll();
        dawnOfNoneAndAll();
        sureOfNoneAndAll();
        leastLinesAsBits();
        chalkToShare();
        eightLinesToShare();
        firstThatFits();
    }

    // ---- what is changed

    /** "RUBBED: STRENGTH becomes one less (0 at least)." */
    private static void rubbedToNothing() {
        for (int strength = 0; strength <= 9; strength++) {
            ChalkRoads x = Due.told("line 0 1 1 " + strength + ";line 0 1 1 " + strength + " roof;");
            for (int times = 1; times <= 11; times++) {
                Due.due("wet() " + times + " of " + strength, x.wet(), times == strength ? 1 : 0);
                Due.due("strength by wet()", x.line(0, 3), Math.max(0, strength - times));
                Due.due("strength by wet() under a roof", x.line(1, 3), strength);
            }
            Due.due("whole lines behind wet()", x.count(0), strength > 0 ? 1 : 0);
        }
    }

    /** "his CHALK is its YARDS less: that CHALK"; "STATE: he has not so much." */
    private static void drawnWithAllChalk() {
        for (int yards = 1; yards <= 9; yards++) {
            for (int chalk : new int[] {0, yards - 1, yards, yards + 1, 50}) {
                ChalkRoads x = Due.told("line 0 1 " + yards + " 0;drawer " + chalk + ";");
                boolean can = chalk >= yards;
                Due.due("draw " + yards + " with " + chalk, x.draw(0, 0), can ? chalk - yards : STATE);
                Due.due("chalk behind it", x.chalk(0), can ? chalk - yards : chalk);
                Due.due("strength behind it", x.line(0, 3), can ? 9 : 0);
            }
        }
        ChalkRoads x = Due.told("line 0 1 9 9;line 0 1 5 0;drawer 50;");
        for (int left = 41; left >= 5; left -= 9) {
            Due.due("draw again", x.draw(0, 0), left);
        }
        Due.due("draw for more than is left", x.draw(0, 0), STATE);
        Due.due("draw for all that is left", x.draw(0, 1), 0);
        Due.due("draw with nothing", x.draw(0, 1), STATE);
    }

    /** "STRENGTH of a LINE becomes v (0 to 9): what it was." */
    private static void strengthsByRub() {
        ChalkRoads x = Due.told("line 0 1 1 1;".repeat(12));
        for (int l = 0; l < 12; l += 11) {
            int before = 1;
            for (int v : new int[] {0, 0, 9, 9, 0, 1, 8, 9}) {
                Due.due("rub(" + l + ", " + v + ")", x.rub(l, v), before);
                Due.due("whole lines", x.count(0), v == 0 ? 11 : 12);
                before = v;
            }
        }
    }

    /** "RAIN in some QUARTERS (1 to 40)": each one by itself, put and taken. */
    private static void rainInEachQuarter() {
        for (int q = 1; q <= 40; q++) {
            ChalkRoads x = new ChalkRoads();
            Due.due("cloud(" + q + ", true)", x.cloud(q, true), 0);
            Due.due("cloud(" + q + ", true) again", x.cloud(q, true), 1);
            for (int k = 1; k <= 40; k++) {
                Due.due("rain(" + k + ") by " + q, x.rain(k), k == q ? 1 : 0);
            }
            Due.due("cloud(" + q + ", false)", x.cloud(q, false), 1);
            Due.due("cloud(" + q + ", false) again", x.cloud(q, false), 0);
            Due.due("rain(" + q + ") no more", x.rain(q), 0);
        }
    }

    /** "A POINT becomes a HOUSE, or not: whether it was." */
    private static void eachPointAHouse() {
        for (int points = 2; points <= 9; points++) {
            ChalkRoads x = Due.told("points " + points + ";");
            for (int i = 0; i < points; i++) {
                Due.due("build(" + i + ", true)", x.build(i, true), 0);
                Due.due("build(" + i + ", true) again", x.build(i, true), 1);
                Due.due("houses up to " + i, x.rule(4), (2 << i) - 1);
            }
            Due.due("build(" + points + ", true)", x.build(points, true), BAD);
            for (int i = 0; i < points; i++) {
                Due.due("build(" + i + ", false)", x.build(i, false), 1);
                Due.due("build(" + i + ", false) again", x.build(i, false), 0);
                Due.due("houses behind " + i, x.rule(4), (1 << points) - (2 << i));
            }
        }
    }

    /** "A LINE more, of STRENGTH 0, without a ROOF: its number. BAD (also alike); FULL." */
    private static void plannedUpToTwelve() {
        for (int told = 0; told <= 12; told++) {
            ChalkRoads x = Due.told("line 0 1 1 9 roof;".repeat(told));
            for (int l = told; l < 12; l++) {
                Due.due("plan number " + l, x.plan(4, 3, 9), l);
                Due.due("lines with " + l, x.rule(1), l + 1);
                int[] line = {4, 3, 9, 0, 0};
                for (int what = 0; what < 5; what++) {
                    Due.due("planned line(" + l + ", " + what + ")", x.line(l, what), line[what]);
                }
                Due.due("whole lines", x.count(0), told);
            }
            Due.due("plan of a 13th", x.plan(4, 3, 9), FULL);
            Due.due("lines, full", x.rule(1), 12);
        }
        // a ROOF of a LINE that went with an IMAGE is not that of the next one
        ChalkRoads x = Due.told("line 0 1 1 1;");
        x.keep(0);
        x.plan(0, 2, 5);
        x.rub(1, 9);
        x.back(0);
        Due.due("plan behind back()", x.plan(3, 4, 2), 1);
        Due.due("its strength", x.line(1, 3), 0);
        Due.due("its first point", x.line(1, 0), 3);
        Due.due("its yards", x.line(1, 2), 2);
    }

    /** "It rains now: LINES that are not WHOLE any more by it (bits)": none of those that were not. */
    private static void wetLines() {
        ChalkRoads x = Due.told("line 0 1 1 1;".repeat(12));
        Due.due("wet() of twelve", x.wet(), 4095);
        Due.due("wet() of none whole", x.wet(), 0);
        x = Due.told("line 0 1 1 1 roof;".repeat(12));
        Due.due("wet() of twelve roofs", x.wet(), 0);
        x = Due.told("line 0 1 1 2;" + "line 0 1 1 1;".repeat(10) + "line 0 1 1 2;");
        Due.due("wet() but the ends", x.wet(), 2046);
        Due.due("wet() of the ends", x.wet(), 2049);
    }

    // ---- ways

    private static ChalkRoads row(int points, int yards, int strength) {
        StringBuilder text = new StringBuilder("points " + points + ";");
        for (int i = 0; i + 1 < points; i++) {
            text.append("line ").append(i).append(' ').append(i + 1).append(' ').append(yards).append(' ');
            text.append(strength).append(';');
        }
        return Due.told(text.toString());
    }

    /** "10 and k (0 to 8): LINE k"; "10 and k: not so many": ways of one LINE up to eight. */
    private static void wayOfEachLength() {
        for (int points = 2; points <= 9; points++) {
            ChalkRoads x = row(points, 9, 1);
            int last = points - 1;
            Due.due("yards of " + last, x.way(0, last, 0), 9 * last);
            Due.due("lines of " + last, x.way(last, 0, 1), last);
            for (int k = 0; k <= 8; k++) {
                Due.due("line " + k + " of " + last, x.way(0, last, 10 + k), k < last ? k : NONE);
                Due.due("line " + k + " of " + last + " back", x.way(last, 0, 10 + k), k < last ? last - 1 - k : NONE);
            }
            Due.due("line 9", x.way(0, last, 19), BAD);
            Due.due("line -1", x.way(0, last, 9), BAD);
            x.rub(last - 1, 0);
            Due.due("no way", x.way(0, last, 0), NONE);
            Due.due("no way's lines", x.way(0, last, 1), NONE);
            Due.due("no way's line", x.way(0, last, 10), NONE);
        }
    }

    /** "(To itself: 0.)": YARDS and LINES, also where no LINE is; there is no LINE k. */
    private static void wayToItself() {
        for (ChalkRoads x : new ChalkRoads[] {new ChalkRoads(), row(5, 1, 9), row(5, 1, 0)}) {
            for (int i = 0; i < 5; i++) {
                Due.due("yards to itself", x.way(i, i, 0), 0);
                Due.due("lines to itself", x.way(i, i, 1), 0);
                Due.due("line to itself", x.way(i, i, 10), NONE);
                Due.due("last line to itself", x.way(i, i, 18), NONE);
            }
            Due.due("to itself, none there", x.way(5, 5, 0), BAD);
        }
    }

    /** "HOUSES MEET .. (also where there are fewer than two)": then without any LINE, too. */
    private static void housesFewerThanTwo() {
        for (int i = -1; i < 5; i++) {
            for (String lines : new String[] {"", "line 0 1 1 0;", "line 0 1 1 1;"}) {
                ChalkRoads x = Due.told((i < 0 ? "" : "house " + i + ";") + lines);
                String name = " with house " + i + " and " + lines;
                Due.due("meet(0)" + name, x.meet(0), 1);
                Due.due("needed()" + name, x.needed(), 0);
                for (int what = 0; what < 2; what++) {
                    Due.due("dawn(" + what + ")" + name, x.dawn(what), 0);
                    Due.due("sure(" + what + ")" + name, x.sure(what), 0);
                }
            }
        }
    }

    /** "if by these there is a row of LINES from each HOUSE to each other one": all of them, WHOLE or not. */
    private static void housesAtTheEnds() {
        for (int strength = 0; strength <= 9; strength += 9) {
            ChalkRoads x = row(9, 1, strength);
            x.build(0, true);
            x.build(8, true);
            Due.due("meet(all)", x.meet(255), 1);
            for (int l = 0; l < 8; l++) {
                Due.due("meet without " + l, x.meet(255 - (1 << l)), 0);
            }
            Due.due("meet(none)", x.meet(0), 0);
            Due.due("meet of a line that is not", x.meet(256), BAD);
        }
        ChalkRoads x = Due.told("points 9;" + "line 7 8 1 0;".repeat(12));
        for (int i = 0; i < 9; i++) {
            x.build(i, true);
        }
        Due.due("meet of nine by all", x.meet(4095), 0);
        for (int i = 0; i < 7; i++) {
            x.build(i, false);
        }
        for (int l = 0; l < 12; l++) {
            Due.due("meet of two by " + l, x.meet(1 << l), 1);
        }
    }

    /** "LINES, each WHOLE, without which alone HOUSES that MEET by WHOLE LINES do not" */
    private static void neededAll() {
        ChalkRoads x = row(9, 1, 1);
        Due.due("needed() of no houses", x.needed(), 0);
        x.build(0, true);
        Due.due("needed() of one house", x.needed(), 0);
        x.build(8, true);
        Due.due("needed() of a row", x.needed(), 255);
        x.plan(0, 8, 1);
        Due.due("needed() with a line that is not whole", x.needed(), 255);
        x.rub(8, 1);
        Due.due("needed() of a ring", x.needed(), 0);
        x.rub(3, 0);
        Due.due("needed() of a ring that is open", x.needed(), 256);
        x.rub(8, 0);
        Due.due("needed() apart", x.needed(), STATE);
        x = Due.told("house 0;house 1;" + "line 0 1 1 0;".repeat(11) + "line 0 1 1 1;");
        Due.due("needed() the twelfth", x.needed(), 2048);
        x.rub(0, 1);
        Due.due("needed() none of two", x.needed(), 0);
        x.rub(11, 0);
        Due.due("needed() the first", x.needed(), 1);
    }

    /** "POINTS to which one comes by WHOLE LINES (bits; itself, too)." */
    private static void partOfEach() {
        ChalkRoads x = row(9, 1, 0);
        for (int i = 0; i < 9; i++) {
            Due.due("part(" + i + ") alone", x.part(i), 1 << i);
        }
        for (int l = 0; l < 8; l++) {
            x.rub(l, 1);
            Due.due("part(0) by " + l, x.part(0), (4 << l) - 1);
            Due.due("part(8) by " + l, x.part(8), l == 7 ? 511 : 256);
        }
    }

    /** THE WAY and a RUN are by LINES as they are told, though as many others were WHOLE before. */
    private static void wayBehindAnotherText() {
        for (int goal = 0; goal < 9; goal++) {
            int from = (goal + 1) % 9;
            int over = (goal + 2) % 9;
            String lines = "points 9;line " + from + " " + goal + " 5 9;line " + from + " " + over + " 9 9;";
            String others = "points 9;line " + from + " " + over + " 1 9;line " + over + " " + goal + " 2 9;";
            String one = "one " + from + " " + goal + " 0;";
            ChalkRoads x = Due.told(lines + one);
            Due.due("yards to " + goal, x.way(from, goal, 0), 5);
            Due.due("comes to " + goal, x.comes(0), 6);
            Due.feed(x, others + one);
            Due.due("text() of others", x.text(), 4);
            Due.due("yards to " + goal + " by others", x.way(from, goal, 0), 3);
            Due.due("lines to " + goal + " by others", x.way(from, goal, 1), 2);
            Due.feed(x, lines + one);
            Due.due("text() as it was", x.text(), 4);
            Due.due("comes to " + goal + " again", x.comes(0), 6);
            Due.feed(x, others + one);
            Due.due("text() of others again", x.text(), 4);
            Due.due("comes to " + goal + " by others", x.comes(0), 5);
            Due.due("where on the way to " + goal, x.where(0, 3), 101);
        }
    }

    // ---- a run

    /** "in a QUARTER behind his START": 0 to 40, then at a POINT up to it and on the LINE behind it. */
    private static void startOfEachQuarter() {
        for (int start = 0; start <= 40; start++) {
            ChalkRoads x = Due.told("line 0 1 2 9;one 1 0 " + start + ";");
            Due.due("where at START " + start, x.where(0, start), 1);
            Due.due("where behind START " + start, x.where(0, start + 1), 100);
            Due.due("where, a yard to go", x.where(0, start + 2), 100);
            Due.due("where he comes", x.where(0, start + 3), 0);
            Due.due("comes(0)", x.comes(0), start + 3);
            Due.due("waited(0, 60)", x.waited(0, 60), 0);
        }
    }

    /** "from the next QUARTER on he has its YARDS to go"; "with the last one he is at its other POINT" */
    private static void yardsOfEachLength() {
        for (int yards = 1; yards <= 9; yards++) {
            ChalkRoads x = Due.told("line 0 1 " + yards + " 9;one 0 1 0;one 1 0 0;");
            for (int q = 0; q <= 12; q++) {
                boolean isOn = q >= 1 && q <= yards;
                Due.due("where(0, " + q + ")", x.where(0, q), q == 0 ? 0 : isOn ? 100 : 1);
                Due.due("where(1, " + q + ")", x.where(1, q), q == 0 ? 1 : isOn ? 100 : 0);
                Due.due("strength(0, " + q + ")", x.strength(0, q), q > yards ? 7 : 9);
            }
            Due.due("comes(0)", x.comes(0), yards + 1);
            Due.due("comes(1)", x.comes(1), yards + 1);
        }
    }

    /** "first, if there is RAIN in it, RAIN": in each QUARTER, down to 0 and no further. */
    private static void rainInARun() {
        ChalkRoads x = Due.told("line 0 1 1 9;line 0 1 1 1;line 0 1 1 0;line 0 1 1 9 roof;");
        for (int q = 1; q <= 40; q++) {
            x.cloud(q, true);
        }
        for (int q = 0; q <= 60; q++) {
            Due.due("strength(0, " + q + ")", x.strength(0, q), Math.max(0, 9 - q));
            Due.due("strength(1, " + q + ")", x.strength(1, q), q == 0 ? 1 : 0);
            Due.due("strength(2, " + q + ")", x.strength(2, q), 0);
            Due.due("strength(3, " + q + ")", x.strength(3, q), 9);
        }
        for (int rain : new int[] {1, 2, 39, 40}) {
            x = Due.told("line 0 1 1 5;rain " + rain + ";");
            for (int q = 0; q <= 60; q++) {
                Due.due("strength(0, " + q + ") by " + rain, x.strength(0, q), q < rain ? 5 : 4);
            }
        }
    }

    /** "whoever is on a LINE that is not WHOLE then is LOST": all five; nobody who is at a POINT. */
    private static void allLostByRain() {
        ChalkRoads x = Due.told("line 0 1 9 1;" + "one 0 1 0;".repeat(5) + "rain 5;");
        for (int q = 0; q <= 60; q++) {
            Due.due("lost(" + q + ")", x.lost(q), q < 5 ? 0 : 31);
            Due.due("where(4, " + q + ")", x.where(4, q), q == 0 ? 0 : q < 5 ? 100 : NONE);
        }
        x = Due.told("line 0 1 9 2;" + "one 0 1 0;".repeat(5) + "rain 5;");
        Due.due("lost(60) of strength 2", x.lost(60), 30);
        Due.due("comes(0) of strength 2", x.comes(0), 10);
        x = Due.told("line 0 1 9 1;" + "one 0 1 5;".repeat(4) + "one 0 1 4;rain 5;");
        Due.due("lost(60) of those at a point", x.lost(60), 0);
        Due.due("waited(4, 60)", x.waited(4, 60), 56);
        Due.due("waited(0, 60)", x.waited(0, 60), 55);
        x = Due.told("line 0 1 9 1;line 1 0 9 1 roof;one 0 1 0;one 0 1 1;rain 1;rain 9;");
        Due.due("lost(60) under a roof", x.lost(60), 2);
        Due.due("comes(0) under a roof", x.comes(0), 10);
    }

    /** "others on it are LOST, if it is not WHOLE any more": not he who comes, none on another LINE. */
    private static void allLostByFeet() {
        ChalkRoads x = Due.told("line 0 1 2 1;line 2 3 2 1;one 0 1 0;one 1 0 0;one 0 1 1;one 1 0 1;one 2 3 0;");
        Due.due("lost(2)", x.lost(2), 0);
        Due.due("lost(3)", x.lost(3), 14);
        Due.due("where(0, 3)", x.where(0, 3), 1);
        Due.due("where(4, 3)", x.where(4, 3), 3);
        Due.due("where(4, 2)", x.where(4, 2), 101);
        Due.due("comes(1)", x.comes(1), NONE);
        for (int strength = 1; strength <= 9; strength++) {
            x = Due.told("line 0 1 3 " + strength + ";" + "one 0 1 0;".repeat(5));
            int come = Math.min(5, strength);
            Due.due("lost(60) of strength " + strength, x.lost(60), 32 - (1 << come));
            Due.due("strength(0, 60) of " + strength, x.strength(0, 60), strength - come);
            Due.due("comes(4) of strength " + strength, x.comes(4), strength > 4 ? 4 : NONE);
        }
    }

    private static void roofKeepsRainNotFeet() {
        ChalkRoads x = Due.told("line 0 1 1 1 roof;one 0 1 0;one 1 0 1;rain 1;rain 2;");
        Due.due("strength(0, 1)", x.strength(0, 1), 1);
        Due.due("strength(0, 2)", x.strength(0, 2), 0);
        Due.due("waited(1, 60)", x.waited(1, 60), 59);
        x = Due.told("line 0 1 2 1 roof;one 0 1 0;one 1 0 1;rain 1;rain 2;rain 3;");
        Due.due("lost(3)", x.lost(3), 2);
        Due.due("lost(2)", x.lost(2), 0);
    }

    /** "is there none, he WAITS": in each QUARTER behind his START, up to q. */
    private static void waitsFromTheStart() {
        for (int start = 0; start <= 40; start += 8) {
            ChalkRoads x = Due.told("line 0 1 1 0;one 0 1 " + start + ";");
            for (int q = 0; q <= 60; q++) {
                Due.due("waited(0, " + q + ")", x.waited(0, q), Math.max(0, q - start));
                Due.due("where(0, " + q + ")", x.where(0, q), 0);
            }
            Due.due("comes(0)", x.comes(0), NONE);
        }
    }

    private static void waitsOnTheWay() {
        ChalkRoads x = Due.told("line 0 1 2 9;line 1 2 2 1;one 0 2 0;rain 3;");
        int[] where = {0, 100, 100, 1, 1, 1};
        int[] waited = {0, 0, 0, 0, 1, 2};
        for (int q = 0; q < where.length; q++) {
            Due.due("where(0, " + q + ")", x.where(0, q), where[q]);
            Due.due("waited(0, " + q + ")", x.waited(0, q), waited[q]);
        }
        Due.due("waited(0, 60)", x.waited(0, 60), 57);
        // he who is LOST, or at his GOAL, WAITS no more
        x = Due.told("line 0 1 2 1;one 0 1 0;one 1 0 0;");
        Due.due("waited(0, 60) at his goal", x.waited(0, 60), 0);
        Due.due("waited(1, 60) lost", x.waited(1, 60), 0);
    }

    /** "Behind QUARTER q (0 to 60)": behind 0 all is as told. */
    private static void behindQuarterNoneAndSixty() {
        ChalkRoads x = Due.told("line 4 3 9 7;one 4 3 0;one 3 4 0;rain 1;rain 40;");
        Due.due("where(0, 0)", x.where(0, 0), 4);
        Due.due("where(1, 0)", x.where(1, 0), 3);
        Due.due("strength(0, 0)", x.strength(0, 0), 7);
        Due.due("waited(0, 0)", x.waited(0, 0), 0);
        Due.due("lost(0)", x.lost(0), 0);
        Due.due("storm(0)", x.storm(0), 0);
        Due.due("where(0, 60)", x.where(0, 60), 3);
        Due.due("strength(0, 60)", x.strength(0, 60), 3);
        x = Due.told("line 0 1 9 9;".repeat(11) + "line 0 1 8 9;one 0 1 1;");
        Due.due("where on the twelfth line", x.where(0, 2), 111);
    }

    /** "NONE: not by QUARTER 60." */
    private static void comesBySixty() {
        for (int last = 1; last <= 9; last++) {
            ChalkRoads x = Due.told("line 0 1 9 9;line 1 2 " + last + " 9;one 0 2 40;");
            Due.due("comes with " + last, x.comes(0), 51 + last);
        }
        ChalkRoads x = Due.told("line 0 1 8 9;line 1 2 9 9;line 2 3 1 9;one 0 3 39;");
        Due.due("comes in 60", x.comes(0), 60);
        Due.due("where in 59", x.where(0, 59), 102);
        Due.due("where in 60", x.where(0, 60), 3);
        x = Due.told("line 0 1 8 9;line 1 2 9 9;line 2 3 1 9;one 0 3 40;");
        Due.due("comes behind 60", x.comes(0), NONE);
        Due.due("where in 60 then", x.where(0, 60), 102);
        Due.due("lost(60) then", x.lost(60), 0);
        Due.due("storm(60) then", x.storm(60), 1);
    }

    /** "a storm rubbed out all LINES without a ROOF: on such ones then": whatever their STRENGTH. */
    private static void storms() {
        for (int strength : new int[] {1, 9}) {
            ChalkRoads x = Due.told("line 0 1 9 " + strength + ";line 2 3 9 " + strength + " roof;one 0 1 0;one 2 3 0;"
                + "one 1 0 1;one 3 2 1;one 0 4 0;");
            Due.due("storm(0)", x.storm(0), 0);
            Due.due("storm(1)", x.storm(1), 1);
            Due.due("storm(2)", x.storm(2), 5);
            Due.due("storm(9)", x.storm(9), 5);
            Due.due("storm(10)", x.storm(10), strength == 1 ? 0 : 4);
            Due.due("storm(11)", x.storm(11), 0);
            Due.due("storm(60)", x.storm(60), 0);
        }
        ChalkRoads x = Due.told("line 0 1 9 9;" + "one 0 1 0;".repeat(5));
        Due.due("storm(5) of all", x.storm(5), 31);
    }

    /** "The QUARTER (1 to 40) in which RAIN .. makes most LOST behind 60 .. of several the first" */
    private static void worstQuarters() {
        // RAIN in QUARTER 1, ahead of all who go: the first one's feet rub the LINE out below the other
        ChalkRoads x = Due.told("line 0 1 3 2;one 0 1 0;one 0 1 1;");
        Due.due("worst(0) is 1", x.worst(0), 1);
        Due.due("worst(1) of 1", x.worst(1), 1);
        for (int start = 0; start <= 40; start++) {
            x = Due.told("line 0 1 3 1;one 0 1 " + start + ";");
            Due.due("worst(0) behind START " + start, x.worst(0), start + 2 <= 40 ? start + 2 : NONE);
            Due.due("worst(1) behind START " + start, x.worst(1), start + 2 <= 40 ? 1 : NONE);
        }
        // a QUARTER that has RAIN makes no more, and the next one may
        x = Due.told("line 0 1 9 2;one 0 1 0;rain 2;");
        Due.due("worst(0) beside rain", x.worst(0), 1);
        x = Due.told("line 0 1 9 2;one 0 1 0;rain 1;");
        Due.due("worst(0) behind rain", x.worst(0), 2);
        x = Due.told("line 0 1 9 1;one 0 1 0;rain 2;");
        Due.due("worst(0), all are lost as told", x.worst(0), NONE);
        Due.due("worst(1), all are lost as told", x.worst(1), NONE);
    }

    /** "most LOST behind 60, more than as it is told": fewer, as many, and all five. */
    private static void worstOfAll() {
        ChalkRoads x = Due.told("line 0 1 9 1;" + "one 0 1 0;".repeat(5));
        Due.due("as told", x.lost(60), 30);
        Due.due("worst(0) of all", x.worst(0), 2);
        Due.due("worst(1) of all", x.worst(1), 5);
        // RAIN that keeps them from going makes fewer LOST: that is none
        x = Due.told("line 0 1 2 1;one 0 1 5;one 0 1 6;rain 8;");
        Due.due("as told, both by rain", x.lost(60), 3);
        Due.due("worst(0), fewer", x.worst(0), NONE);
        // as many, but others
        x = Due.told("line 0 1 2 1;one 0 1 0;one 1 0 1;");
        Due.due("as told one", x.lost(60), 2);
        Due.due("worst(0) of two", x.worst(0), 3);
        Due.due("worst(1) of two", x.worst(1), 2);
        x = new ChalkRoads();
        Due.due("worst(0) of nobody", x.worst(0), NONE);
        Due.due("worst(1) of nobody", x.worst(1), NONE);
    }

    // ---- dawns

    /** "each not WHOLE": none when all are, all twelve at most; NONE when the last does not do. */
    private static void dawnOfNoneAndAll() {
        for (int yards = 1; yards <= 9; yards += 8) {
            ChalkRoads x = row(9, yards, 0);
            x.build(0, true);
            x.build(8, true);
            Due.due("dawn(0) of a row", x.dawn(0), 8 * yards);
            Due.due("dawn(1) of a row", x.dawn(1), 255);
            for (int l = 0; l < 8; l++) {
                x.rub(l, 1);
                Due.due("dawn(0) with " + l + " whole", x.dawn(0), (7 - l) * yards);
                Due.due("dawn(1) with " + l + " whole", x.dawn(1), 256 - (2 << l));
            }
        }
        ChalkRoads x = Due.told("house 0;house 1;" + "line 0 2 1 0;".repeat(11) + "line 0 1 9 0;");
        Due.due("dawn(0) by the twelfth", x.dawn(0), 9);
        Due.due("dawn(1) by the twelfth", x.dawn(1), 2048);
        x.build(3, true);
        Due.due("dawn(0) NONE", x.dawn(0), NONE);
        Due.due("dawn(1) NONE", x.dawn(1), NONE);
        x = Due.told("points 2;house 0;house 1;");
        Due.due("dawn(0) without a line", x.dawn(0), NONE);
        Due.due("dawn(1) without a line", x.dawn(1), NONE);
    }

    /** "also without any one LINE (of all)": four rings of three at one POINT need all twelve. */
    private static void sureOfNoneAndAll() {
        StringBuilder text = new StringBuilder("points 9;");
        for (int i = 1; i < 9; i += 2) {
            text.append("line 0 ").append(i).append(" 9 0;line ").append(i).append(' ').append(i + 1).append(" 9 0;");
            text.append("line 0 ").append(i + 1).append(" 9 0;house ").append(i).append(';');
        }
        ChalkRoads x = Due.told(text.toString());
        Due.due("sure(0) by all", x.sure(0), 108);
        Due.due("sure(1) by all", x.sure(1), 4095);
        Due.due("dawn(0) by four", x.dawn(0), 36);
        for (int l = 0; l < 12; l++) {
            x.rub(l, 1 + l % 9);
            Due.due("sure(0) with " + l + " whole", x.sure(0), 9 * (11 - l));
            Due.due("sure(1) with " + l + " whole", x.sure(1), 4096 - (2 << l));
        }
        // not WHOLE, and not to be DRAWN either: what is left out does no harm
        x = Due.told("house 0;house 1;line 0 1 1 1;line 0 1 1 1;line 0 1 1 0;line 3 4 1 1;");
        Due.due("sure(0) of two whole", x.sure(0), 0);
        Due.due("sure(1) of two whole", x.sure(1), 0);
        x.rub(1, 0);
        Due.due("sure(1) of one whole", x.sure(1), 2);
        x = Due.told("house 0;house 1;line 0 1 1 1;line 2 1 1 1;");
        Due.due("sure(0) NONE", x.sure(0), NONE);
        Due.due("sure(1) NONE", x.sure(1), NONE);
    }

    /** "of several the least LINES as bits": not the fewest of them. */
    private static void leastLinesAsBits() {
        ChalkRoads x = Due.told("house 0;house 1;line 0 2 1 0;line 2 1 1 0;line 0 1 2 0;");
        Due.due("dawn(1), two ahead of one", x.dawn(1), 3);
        x = Due.told("house 0;house 1;line 0 1 2 0;line 0 2 1 0;line 2 1 1 0;");
        Due.due("dawn(1), one ahead of two", x.dawn(1), 1);
        Due.due("sure(0)", x.sure(0), 4);
        Due.due("sure(1)", x.sure(1), 7);
        x = Due.told("house 0;house 1;line 0 1 2 0;line 0 2 1 0;line 2 1 1 0;line 0 1 2 0;");
        // 0 and 3, 0 and 1 and 2, 1 and 2 and 3: four YARDS each; 7 is the least
        Due.due("sure(0) of several", x.sure(0), 4);
        Due.due("sure(1) of several", x.sure(1), 7);
    }

    /** "YARDS of his are no more than his CHALK" */
    private static void chalkToShare() {
        for (int yards = 1; yards <= 9; yards++) {
            for (int chalk : new int[] {yards - 1, yards, yards + 1}) {
                ChalkRoads x = Due.told("line 0 1 " + yards + " 0;drawer 0;drawer " + chalk + ";");
                boolean can = chalk >= yards;
                Due.due("share(1, 0) of " + yards + " with " + chalk, x.share(1, 0), can ? 1 : NONE);
                Due.due("share(1, 1) of " + yards + " with " + chalk, x.share(1, 1), can ? 2 : NONE);
                Due.due("share(1, 10) of " + yards + " with " + chalk, x.share(1, 10), can ? 1 : NONE);
            }
        }
        ChalkRoads x = Due.told("line 0 1 1 0;");
        Due.due("share(0, 0) of nobody", x.share(0, 0), 0);
        Due.due("share(1, 0) of nobody", x.share(1, 0), NONE);
        Due.due("share(1, 10) of nobody", x.share(1, 10), NONE);
        x = Due.told("line 0 1 1 9;line 0 1 9 9 roof;drawer 9;drawer 10;");
        Due.due("share of whole lines", x.share(3, 1), 2);
        Due.due("share of none", x.share(0, 0), 0);
        Due.due("share of none, who", x.share(0, 1), 0);
        Due.due("share of none, line 0", x.share(0, 10), NONE);
    }

    /** "some LINES (bits, 8 at most)"; five who have just enough; one who has. */
    private static void eightLinesToShare() {
        String lines = "line 0 1 9 0;".repeat(4) + "line 0 1 5 0;".repeat(8);
        ChalkRoads x = Due.told(lines + "drawer 9;drawer 9;drawer 9;drawer 9;drawer 20;");
        Due.due("share of eight by five", x.share(255, 0), 5);
        Due.due("share of eight by all", x.share(255, 1), 31);
        int[] who = {0, 1, 2, 3, 4, 4, 4, 4, NONE, NONE, NONE, NONE};
        for (int l = 0; l < 12; l++) {
            Due.due("share of eight, line " + l, x.share(255, 10 + l), who[l]);
        }
        Due.due("share of nine", x.share(511, 0), BAD);
        Due.due("share of twelve", x.share(4095, 0), BAD);
        Due.due("share of the last eight", x.share(4080, 0), 5);
        Due.due("share of the last eight, who", x.share(4080, 1), 31);
        x = Due.told(lines + "drawer 41;drawer 40;drawer 39;drawer 50;drawer 40;");
        Due.due("share of 40 yards, one", x.share(4080, 0), 1);
        Due.due("share of 40 yards, the least", x.share(4080, 1), 1);
        x.draw(0, 4);
        Due.due("share of 40 yards, the next", x.share(4080, 1), 2);
        Due.due("share of 40 yards, line 11", x.share(4080, 21), 1);
    }

    /** "the first that fits": BAD, STATE, FULL, NONE. */
    private static void firstThatFits() {
        ChalkRoads x = Due.told("points 3;house 0;house 1;" + "line 0 2 9 0;".repeat(12) + "drawer 0;one 0 1 0;");
        Due.due("draw BAD ahead of STATE", x.draw(0, 12), BAD);
        Due.due("draw STATE", x.draw(0, 11), STATE);
        Due.due("plan BAD ahead of FULL", x.plan(0, 3, 1), BAD);
        Due.due("plan alike BAD ahead of FULL", x.plan(1, 1, 1), BAD);
        Due.due("plan FULL", x.plan(0, 1, 1), FULL);
        Due.due("way BAD ahead of NONE", x.way(0, 1, 2), BAD);
        Due.due("way BAD ahead of NONE, 9", x.way(0, 1, 19), BAD);
        Due.due("way NONE", x.way(0, 1, 18), NONE);
        Due.due("dawn BAD ahead of NONE", x.dawn(2), BAD);
        Due.due("dawn NONE", x.dawn(1), NONE);
        Due.due("sure BAD ahead of NONE", x.sure(2), BAD);
        Due.due("share BAD ahead of NONE", x.share(1, 2), BAD);
        Due.due("share BAD line ahead of NONE", x.share(1, 22), BAD);
        Due.due("share NONE", x.share(1, 21), NONE);
        Due.due("worst BAD ahead of NONE", x.worst(2), BAD);
        Due.due("back BAD ahead of STATE", x.back(2), BAD);
        for (int i = 0; i < 8; i++) {
            x.hear(1, i % 2 == 0);
        }
        Due.due("hear BAD ahead of FULL", x.hear(0, true), BAD);
        Due.due("hear BAD lines ahead of FULL", x.hear(4096, true), BAD);
        Due.due("hear FULL", x.hear(1, true), FULL);
        Due.due("breaks BAD ahead of NONE", x.breaks(4), BAD);
        Due.due("known BAD ahead of NONE", x.known(2), BAD);
        Due.due("ask BAD ahead of NONE", x.ask(2), BAD);
        Due.due("ask NONE", x.ask(1), NONE);
        Due.due("sheet BAD ahead of SIZE", x.sheet(4, 0, -1), BAD);
        Due.due("lay BAD ahead of NULL", x.lay(4, -1, 0), BAD);
        Due.due("lay NULL ahead of INDEX", x.lay(3, -1, 0), -11);
        Due.due("read BAD ahead of all", x.read(3, 0, -1, 9), BAD);
        Due.due("count BAD ahead of NONE", x.count(5), BAD);
        Due.due("count NONE", x.count(4), NONE);
        // who is LOST is asked in a QUARTER that is none
        x = Due.told("line 0 1 1 1;one 0 1 0;rain 2;");
        Due.due("where BAD ahead of NONE", x.where(0, 61), BAD);
        Due.due("where NONE", x.where(0, 60), NONE);
        Due.due("comes BAD ahead of NONE", x.comes(1), BAD);
    }
}
