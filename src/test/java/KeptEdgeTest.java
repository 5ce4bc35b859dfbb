import java.util.Arrays;

/**
 * The sentences of the promises 31 to 42 that name a bound: what is HEARD, BREAKS, IMAGES,
 * SHEETS and what is read of them, torn and counted.
 */
final class KeptEdgeTest {
    private static final int BAD = -1, STATE = -2, FULL = -3, NONE = -4;
    private static final int NULL = 1, INDEX = 2, CAST = 3;
    private static final int MIN = Integer.MIN_VALUE, MAX = Integer.MAX_VALUE;

    private KeptEdgeTest() { }

    static void run() {
        eightHeard();
        setsHeard();
        forgetEach();
        breaksOfNothingHeard();
        breaksOfNone();
        breaksOfAllLines();
        knownAtTheEnds();
        askAtTheEnds();
        imagesOfNothing();
        imagesBySteps();
        textAndImages();
        sheetOfEachSize();
        sheetAnew();
        lowestBits();
        readAtTheEnd();
        readOfEachNumber();
        readFaults();
        readRefused();
        readNone();
        tornStays();
        counts();
        lastOfManyCalls();
    }

    private static ChalkRoads lines(int n) {
        return Due.told("line 0 1 1 1;".repeat(n));
    }

    // ---- breaks

    /** "HEARD (8)"; "BAD (also a set of no LINES); FULL." */
    private static void eightHeard() {
        ChalkRoads x = lines(12);
        Due.due("hear of no lines", x.hear(0, true), BAD);
        Due.due("hear of no lines, not", x.hear(0, false), BAD);
        for (int i = 1; i <= 8; i++) {
            Due.due("hear " + i, x.hear(1 << i, i % 2 == 0), i);
            Due.due("heard", x.count(1), i);
        }
        Due.due("hear a ninth", x.hear(1, true), FULL);
        Due.due("hear a ninth, not", x.hear(4095, false), FULL);
        Due.due("heard of nine", x.count(1), 8);
        Due.due("known(1) of eight", x.known(1), 4 + 16 + 64 + 256);
        Due.due("known(0) of eight", x.known(0), 2 + 8 + 32 + 128);
        Due.due("forget(7)", x.forget(7), 8);
        Due.due("hear an eighth again", x.hear(2048, true), 8);
        Due.due("known(1) by it", x.known(1), 4 + 16 + 64 + 2048);
    }

    /** "some LINES (bits)": of n LINES all sets but none, and no bit more. */
    private static void setsHeard() {
        for (int n = 0; n <= 12; n++) {
            int all = (1 << n) - 1;
            ChalkRoads x = lines(n);
            Due.due("hear all of " + n, x.hear(all, false), n == 0 ? BAD : 1);
            Due.due("hear one more than all of " + n, x.hear(all + 1, true), BAD);
            Due.due("hear MIN of " + n, x.hear(MIN, true), BAD);
            Due.due("hear MAX of " + n, x.hear(MAX, true), BAD);
            Due.due("hear MIN and all of " + n, x.hear(MIN | all, true), BAD);
            Due.due("heard of " + n, x.count(1), n == 0 ? 0 : 1);
            Due.due("breaks(0) of " + n, x.breaks(0), n == 0 ? 1 : all);
        }
        // a LINE more may be HEARD of
        ChalkRoads x = lines(1);
        Due.due("hear(2) of one line", x.hear(2, true), BAD);
        x.plan(0, 1, 1);
        Due.due("hear(2) of two lines", x.hear(2, true), 1);
    }

    /** "HEARD are the first n alone: how many there were. BAD (n above that, too)." */
    private static void forgetEach() {
        for (int heard = 0; heard <= 8; heard++) {
            for (int n = -1; n <= heard + 1; n++) {
                ChalkRoads x = lines(8);
                for (int i = 0; i < heard; i++) {
                    x.hear(1 << i, true);
                }
                boolean taken = n >= 0 && n <= heard;
                Due.due("forget(" + n + ") of " + heard, x.forget(n), taken ? heard : BAD);
                Due.due("heard behind it", x.count(1), taken ? n : heard);
                Due.due("known(1) behind it", x.known(1), (1 << (taken ? n : heard)) - 1);
            }
        }
    }

    /** Nothing HEARD: each set of LINES is a BREAK, the one of no LINES, too. */
    private static void breaksOfNothingHeard() {
        for (int n = 0; n <= 12; n++) {
            ChalkRoads x = lines(n);
            Due.due("breaks(0) of " + n, x.breaks(0), 1 << n);
            Due.due("breaks(1) of " + n, x.breaks(1), 0);
            Due.due("breaks(2) of " + n, x.breaks(2), 0);
            Due.due("breaks(3) of " + n, x.breaks(3), 1);
            Due.due("known(0) of " + n, x.known(0), 0);
            Due.due("known(1) of " + n, x.known(1), 0);
            Due.due("ask(0) of " + n, x.ask(0), n == 0 ? NONE : 0);
            Due.due("ask(1) of " + n, x.ask(1), n == 0 ? NONE : 1 << n - 1);
        }
    }

    /** "NONE (1, 2): none": how many are 0 then, not NONE. */
    private static void breaksOfNone() {
        ChalkRoads x = lines(12);
        x.hear(2048, true);
        x.hear(2048, false);
        int[] want = {0, NONE, NONE, 0};
        for (int what = 0; what < 4; what++) {
            Due.due("breaks(" + what + ") of none", x.breaks(what), want[what]);
        }
        for (int what = 0; what < 2; what++) {
            Due.due("known(" + what + ") of none", x.known(what), NONE);
            Due.due("ask(" + what + ") of none", x.ask(what), NONE);
        }
        x.forget(1);
        Due.due("breaks(0) of the first alone", x.breaks(0), 2048);
    }

    /** One BREAK of all LINES, and one of none: "the fewest LINES of one" 12 and 0. */
    private static void breaksOfAllLines() {
        ChalkRoads x = lines(8);
        for (int l = 0; l < 8; l++) {
            x.hear(1 << l, false);
        }
        int[] want = {1, 8, 255, 1};
        for (int what = 0; what < 4; what++) {
            Due.due("breaks(" + what + ") of all", x.breaks(what), want[what]);
        }
        x = lines(12);
        x.hear(4095, true);
        want = new int[] {1, 0, 0, 1};
        for (int what = 0; what < 4; what++) {
            Due.due("breaks(" + what + ") of none broken", x.breaks(what), want[what]);
        }
        x = lines(12);
        x.hear(4095, false);
        want = new int[] {4095, 1, 1, 12};
        for (int what = 0; what < 4; what++) {
            Due.due("breaks(" + what + ") of some broken", x.breaks(what), want[what]);
        }
        x.hear(3072, false);
        x.hear(2047, true);
        want = new int[] {1, 1, 2048, 1};
        for (int what = 0; what < 4; what++) {
            Due.due("breaks(" + what + ") of the last", x.breaks(what), want[what]);
        }
    }

    private static void knownAtTheEnds() {
        ChalkRoads x = lines(12);
        x.hear(4095, true);
        Due.due("known(0), none is broken", x.known(0), 0);
        Due.due("known(1), none is broken", x.known(1), 4095);
        x = lines(2);
        x.hear(1, false);
        x.hear(2, false);
        Due.due("known(0), all are broken", x.known(0), 3);
        Due.due("known(1), all are broken", x.known(1), 0);
        x = lines(12);
        x.hear(2048, false);
        x.hear(1, true);
        Due.due("known(0), the last", x.known(0), 2048);
        Due.due("known(1), the first", x.known(1), 1);
    }

    /** "of several the least"; "no LINE rules out any": whatever is HEARD. */
    private static void askAtTheEnds() {
        ChalkRoads x = lines(12);
        x.hear(2047, true);
        Due.due("ask(0), the last alone", x.ask(0), 11);
        Due.due("ask(1), the last alone", x.ask(1), 1);
        x.hear(2048, false);
        Due.due("ask(0), all are known", x.ask(0), NONE);
        Due.due("ask(1), all are known", x.ask(1), NONE);
        x = lines(2);
        x.hear(3, false);
        // three are left: LINE 0 is broken in two of them, as LINE 1 is
        Due.due("ask(0) of three", x.ask(0), 0);
        Due.due("ask(1) of three", x.ask(1), 2);
        x.hear(1, true);
        Due.due("ask(0) of one", x.ask(0), NONE);
    }

    // ---- images

    /** "whether there was one (1, 0)"; "STATE: there is none": each by itself. */
    private static void imagesOfNothing() {
        for (int k = 0; k < 2; k++) {
            ChalkRoads x = new ChalkRoads();
            Due.due("back(" + k + ") of none", x.back(k), STATE);
            Due.due("keep(" + k + ")", x.keep(k), 0);
            Due.due("keep(" + k + ") again", x.keep(k), 1);
            Due.due("images", x.count(2), 1);
            Due.due("back(" + k + ")", x.back(k), 0);
            Due.due("back(" + (1 - k) + ") of none", x.back(1 - k), STATE);
            Due.due("keep(" + (1 - k) + ")", x.keep(1 - k), 0);
            Due.due("images, both", x.count(2), 2);
            x.plan(0, 1, 1);
            Due.due("back(" + k + ") without lines", x.back(k), 0);
            Due.due("lines", x.rule(1), 0);
            Due.due("images stay", x.count(2), 2);
        }
    }

    /** "IMAGE k is LINES, HOUSES, CHALK, RAIN, what was HEARD": each of these changed by itself. */
    private static void imagesBySteps() {
        for (int k = 0; k < 2; k++) {
            ChalkRoads x = Due.told("points 9;line 8 7 1 1;drawer 50;drawer 50;drawer 50;drawer 50;drawer 9;");
            x.keep(k);
            for (int l = 1; l < 12; l++) {
                Due.due("plan", x.plan(0, 1, 1), l);
            }
            Due.due("back(" + k + ") to one line", x.back(k), 1);
            Due.due("lines", x.rule(1), 1);
            Due.due("line that is gone", x.line(1, 0), BAD);
            x.rub(0, 9);
            x.back(k);
            Due.due("strength", x.line(0, 3), 1);
            x.wet();
            x.back(k);
            Due.due("strength behind wet()", x.line(0, 3), 1);
            x.draw(4, 0);
            x.draw(0, 0);
            x.back(k);
            Due.due("chalk of the last", x.chalk(4), 9);
            Due.due("chalk of the first", x.chalk(0), 50);
            x.build(8, true);
            x.build(0, true);
            x.back(k);
            Due.due("houses", x.rule(4), 0);
            x.cloud(1, true);
            x.cloud(40, true);
            x.back(k);
            Due.due("rain(1)", x.rain(1), 0);
            Due.due("rain(40)", x.rain(40), 0);
            for (int i = 0; i < 8; i++) {
                x.hear(1, true);
            }
            x.back(k);
            Due.due("heard", x.count(1), 0);
        }
    }

    /** "A text that is taken tells all ..; nothing HEARD; IMAGES are gone; SHEETS stay." */
    private static void textAndImages() {
        for (String text : new String[] {"", "   ", "line 0 1 1 1;line 0 1 1 1;"}) {
            ChalkRoads x = Worlds.full();
            x.end(0);
            Due.feed(x, text);
            Due.due("text() of \"" + text + "\"", x.text(), text.isBlank() ? 0 : 2);
            Due.due("points", x.rule(0), 5);
            Due.due("lines", x.rule(1), text.isBlank() ? 0 : 2);
            Due.due("drawers", x.rule(2), 0);
            Due.due("people", x.rule(3), 0);
            Due.due("houses", x.rule(4), 0);
            for (int q = 1; q <= 40; q++) {
                Due.due("rain(" + q + ")", x.rain(q), 0);
            }
            Due.due("heard", x.count(1), 0);
            Due.due("images", x.count(2), 0);
            Due.due("back(0)", x.back(0), STATE);
            Due.due("back(1)", x.back(1), STATE);
            Due.due("keep(0)", x.keep(0), 0);
            for (int k = 0; k < 4; k++) {
                Due.due("lay, the last of " + k, x.lay(k, 39, 0), 1);
                Due.due("lay, behind the last of " + k, x.lay(k, 40, 0), -12);
            }
            if (!text.isBlank()) {
                Due.due("read of what was laid", x.read(2, 2, 38, 1), 1);
                Due.due("known(0) by it", x.known(0), 2);
            }
        }
    }

    // ---- sheets

    /** "with 0 to 40 CELLS, or nothing (at first)": the last CELL and the one behind it, of each. */
    private static void sheetOfEachSize() {
        for (int k = 0; k < 4; k++) {
            for (int n = 0; n <= 40; n++) {
                ChalkRoads x = new ChalkRoads();
                for (int other = 0; other < 4; other++) {
                    Due.due("lay of nothing", x.lay(other, 0, 1), -10 - NULL);
                }
                Due.due("sheet(" + k + ", .., " + n + ")", x.sheet(k, n % 3, n), 1);
                Due.due("lay(" + k + ", " + (n - 1) + ")", x.lay(k, n - 1, 1), n == 0 ? -10 - INDEX : 1);
                Due.due("lay(" + k + ", " + n + ")", x.lay(k, n, 1), -10 - INDEX);
                Due.due("lay(" + k + ", -1)", x.lay(k, -1, 1), -10 - INDEX);
                Due.due("lay(" + k + ", MIN)", x.lay(k, MIN, 1), -10 - INDEX);
                Due.due("lay(" + k + ", MAX)", x.lay(k, MAX, 1), -10 - INDEX);
                Due.due("cells of sheet 0", x.count(4), k == 0 ? n : NONE);
                for (int other = 0; other < 4; other++) {
                    Due.due("lay of " + other, x.lay(other, 0, 1), other == k ? n == 0 ? -12 : 1 : -11);
                }
            }
        }
    }

    /** "A SHEET is a new row of CELLS 0": also a smaller one, a greater one, one of another lane. */
    private static void sheetAnew() {
        int[][] sizes = {{40, 2}, {2, 40}, {40, 40}, {2, 0}, {0, 2}};
        for (int[] size : sizes) {
            for (int lane = 0; lane < 3; lane++) {
                ChalkRoads x = lines(1);
                x.sheet(1, lane, size[0]);
                for (int i = 0; i < size[0]; i++) {
                    x.lay(1, i, 1);
                }
                int next = (lane + size[0] / 40) % 3;
                Due.due("sheet anew", x.sheet(1, next, size[1]), 1);
                if (size[1] > 0) {
                    Due.due("its first cell", x.read(1, next, 0, 1), -20);
                    x.lay(1, size[1] - 2, 1);
                    Due.due("its last cells", x.read(1, next, size[1] - 2, 1), 1);
                    Due.due("its last cell is 0", x.known(0), 1);
                }
                Due.due("behind its last cell", x.lay(1, size[1], 1), -12);
                x.forget(0);
                Due.due("read as it was", x.read(1, (next + 1) % 3, 0, 1), 0);
                Due.due("is another lane", x.torn(), CAST);
            }
        }
        // one that is refused leaves the one that was
        ChalkRoads x = lines(1);
        Worlds.cells(x, 0, 0, 1, 1);
        Due.due("sheet of -1", x.sheet(0, 1, -1), -14);
        Due.due("sheet of MIN", x.sheet(0, 1, MIN), -14);
        Due.due("sheet of 41", x.sheet(0, 1, 41), BAD);
        Due.due("sheet of MAX", x.sheet(0, 1, MAX), BAD);
        Due.due("read of it", x.read(0, 0, 0, 1), 1);
        Due.due("cells of it", x.count(4), 2);
    }

    /** "BYTES (lane 0), SHORTS (1), INTS (2), all with a sign"; "becomes v (its lowest bits)" */
    private static void lowestBits() {
        int[] values = {0, 1, 2, 127, 128, 129, 255, 256, 257, 383, 384, 4095, 4096, 32767, 32768, 32769, 65535, 65536,
            65537, 65663, 98304, -1, -127, -128, -129, -255, -256, -32767, -32768, -32769, -65535, -65536, MIN, MIN + 1,
            MAX, MAX - 1, 1 << 24 | 5, 1 << 16 | 5, 1 << 31 | 5, -251, -65531};
        for (int lane = 0; lane < 3; lane++) {
            for (int v : values) {
                int kept = lane == 0 ? (byte) v : lane == 1 ? (short) v : v;
                String name = v + " in lane " + lane;
                ChalkRoads x = lines(12);
                Worlds.cells(x, 0, lane, v, 1);
                boolean isSet = kept > 0 && kept < 4096;
                Due.due("read of lines " + name, x.read(0, lane, 0, 1), isSet ? 1 : -20);
                Due.due("lines " + name, x.known(1), isSet ? kept : 0);
                x.forget(0);
                Worlds.cells(x, 0, lane, 2, v);
                Due.due("read of came " + name, x.read(0, lane, 0, 1), kept == 0 || kept == 1 ? 1 : -20);
                Due.due("came " + name, x.known(1), kept == 1 ? 2 : 0);
                Due.due("came not " + name, x.known(0), kept == 0 ? 2 : 0);
            }
        }
    }

    /** "two CELLS each from CELL f on": whole up to the last CELL; INDEX ahead of the first, behind the last. */
    private static void readAtTheEnd() {
        for (int cells = 0; cells <= 40; cells++) {
            ChalkRoads x = lines(1);
            int[] row = new int[cells];
            Arrays.fill(row, 1);
            Worlds.cells(x, 3, 2, row);
            for (int f = Math.max(0, cells - 18); f <= cells + 1; f++) {
                int whole = Math.max(0, Math.min(8, (cells - f) / 2));
                x.forget(0);
                Due.due("read of " + cells + " from " + f, x.read(3, 2, f, 8), whole);
                Due.due("torn of " + cells + " from " + f, x.torn(), whole == 8 ? 0 : INDEX);
            }
            x.forget(0);
            for (int f : new int[] {-1, -2, -16, MIN, MIN + 1, MAX, MAX - 1, MAX - 15, 1 << 30}) {
                Due.due("read from " + f, x.read(3, 2, f, 8), 0);
                Due.due("torn from " + f, x.torn(), INDEX);
            }
            Due.due("heard of none", x.count(1), 0);
        }
    }

    /** "n (0 to 8) hear()s .. are read: how many came." */
    private static void readOfEachNumber() {
        for (int heard = 0; heard <= 8; heard++) {
            for (int n = -1; n <= 9; n++) {
                ChalkRoads x = lines(8);
                for (int i = 0; i < heard; i++) {
                    x.hear(255, false);
                }
                x.sheet(0, 1, 16);
                for (int i = 0; i < 8; i++) {
                    x.lay(0, 2 * i, 1 << i);
                    x.lay(0, 2 * i + 1, 1);
                }
                boolean isTaken = n >= 0 && n <= 8;
                boolean isRoom = heard + n <= 8;
                int want = !isTaken ? BAD : isRoom ? n : -20 - (8 - heard);
                Due.due("read " + n + " behind " + heard, x.read(0, 1, 0, n), want);
                Due.due("heard then", x.count(1), want >= 0 ? heard + n : heard);
                if (want >= 0 && n < 8) {
                    Due.due("known(1) then", x.known(1), (1 << n) - 1);
                }
            }
        }
    }

    private static ChalkRoads twoWhole() {
        ChalkRoads x = lines(3);
        Worlds.cells(x, 0, 0, 1, 1, 2, 0, 4);
        return x;
    }

    /** "What the machine refuses: those that were whole ahead come (its FAULT is asked by torn())" */
    private static void readFaults() {
        for (int k = 0; k < 4; k++) {
            for (int lane = 0; lane < 3; lane++) {
                ChalkRoads x = lines(3);
                Due.due("read of nothing", x.read(k, lane, 0, 8), 0);
                Due.due("torn of nothing", x.torn(), NULL);
                Due.due("read of nothing, from nowhere", x.read(k, lane, -1, 1), 0);
                Due.due("torn of nothing, from nowhere", x.torn(), NULL);
                for (int as = 0; as < 3; as++) {
                    Worlds.cells(x, k, lane, 1, 1, 2, 0, 4);
                    x.forget(0);
                    Due.due("read of " + lane + " as of " + as, x.read(k, as, 0, 3), as == lane ? 2 : 0);
                    Due.due("torn of " + lane + " as of " + as, x.torn(), as == lane ? INDEX : CAST);
                    Due.due("heard of " + lane + " as of " + as, x.count(1), as == lane ? 2 : 0);
                    Due.due("read from nowhere", x.read(k, as, -1, 3), 0);
                    Due.due("torn from nowhere", x.torn(), as == lane ? INDEX : CAST);
                    x.sheet(k, lane, 0);
                    Due.due("read of no cells", x.read(k, as, 0, 1), 0);
                    Due.due("torn of no cells", x.torn(), as == lane ? INDEX : CAST);
                }
            }
        }
        ChalkRoads x = twoWhole();
        Due.due("read two", x.read(0, 0, 0, 2), 2);
        Due.due("torn of two", x.torn(), 0);
        Due.due("known(0) of two", x.known(0), 2);
        Due.due("known(1) of two", x.known(1), 1);
    }

    /** "-20 less i (from 0 on) ..: then none came; the first met" */
    private static void readRefused() {
        for (int i = 0; i < 8; i++) {
            for (int wrong = 0; wrong < 6; wrong++) {
                ChalkRoads x = lines(3);
                x.hear(7, false);
                x.forget(0);
                x.sheet(2, 2, 16);
                for (int c = 0; c < 16; c++) {
                    x.lay(2, c, 1);
                }
                int[] cells = {0, 8, -1, 2, -1, MIN};
                x.lay(2, 2 * i + (wrong < 3 ? 0 : 1), cells[wrong]);
                x.lay(2, 15, i == 7 ? cells[Math.max(3, wrong)] : 7);
                Due.due("read, wrong " + wrong + " in " + i, x.read(2, 2, 0, 8), -20 - i);
                Due.due("heard of none", x.count(1), 0);
                Due.due("torn is left", x.torn(), 0);
                Due.due("read of those ahead", x.read(2, 2, 0, i), i);
                Due.due("heard of those ahead", x.count(1), i);
            }
        }
        // refused ahead of what the machine would refuse, and the other way round
        ChalkRoads x = twoWhole();
        x.lay(0, 2, 0);
        Due.due("refused ahead of INDEX", x.read(0, 0, 0, 3), -21);
        Due.due("torn by none", x.torn(), 0);
        Due.due("INDEX ahead of what would be refused", x.read(0, 0, -2, 3), 0);
        Due.due("torn by it", x.torn(), INDEX);
        Due.due("CAST ahead of what would be refused", x.read(0, 1, 2, 1), 0);
        Due.due("torn by CAST", x.torn(), CAST);
        // one that is half in the row is not whole, and not looked at
        Worlds.cells(x, 1, 2, 1, 1, 0);
        Due.due("half of a wrong one", x.read(1, 2, 0, 2), 1);
        Due.due("torn by half", x.torn(), INDEX);
        // without LINES each is refused
        x = new ChalkRoads();
        Worlds.cells(x, 0, 0, 1, 1);
        Due.due("read without lines", x.read(0, 0, 0, 1), -20);
        x = new ChalkRoads();
        Worlds.cells(x, 0, 0, 0, 0);
        Due.due("read of no lines", x.read(0, 0, 0, 1), -20);
    }

    /** "of n 0: 0, no FAULT, whatever the SHEET is" */
    private static void readNone() {
        for (int k = 0; k < 4; k++) {
            for (int lane = 0; lane < 3; lane++) {
                for (int f : new int[] {MIN, -1, 0, 39, 40, MAX}) {
                    ChalkRoads x = Worlds.full();
                    x.sheet(2, 0, 0);
                    x.read(k, (k + 1) % 3, 0, 1);
                    Due.due("read none of " + k + " as " + lane, x.read(k, lane, f, 0), 0);
                    Due.due("torn of none", x.torn(), 0);
                    Due.due("heard behind none", x.count(1), 8);
                    x = new ChalkRoads();
                    x.read(k, lane, f, 1);
                    Due.due("torn of nothing", x.torn(), NULL);
                    Due.due("read none of nothing", x.read(k, lane, f, 0), 0);
                    Due.due("torn of none of nothing", x.torn(), 0);
                }
            }
        }
    }

    /** "The FAULT of the latest read() that answered 0 or more; 0 (one that is refused leaves it)." */
    private static void tornStays() {
        ChalkRoads x = twoWhole();
        Due.due("torn at first", x.torn(), 0);
        Due.due("read CAST", x.read(0, 2, 0, 1), 0);
        int[] refused = {x.read(4, 0, 0, 1), x.read(0, 3, 0, 1), x.read(0, 0, 0, 9), x.read(0, 0, 1, 1)};
        int[] want = {BAD, BAD, BAD, -20};
        for (int i = 0; i < refused.length; i++) {
            Due.due("refused " + i, refused[i], want[i]);
        }
        Due.due("torn by CAST", x.torn(), CAST);
        Due.due("lay NULL", x.lay(1, 0, 0), -11);
        Due.due("lay INDEX", x.lay(0, 5, 0), -12);
        Due.due("sheet SIZE", x.sheet(0, 0, -1), -14);
        Due.due("torn still by CAST", x.torn(), CAST);
        x.keep(0);
        x.back(0);
        x.sheet(0, 0, 1);
        x.forget(0);
        Due.due("torn behind all else", x.torn(), CAST);
        x.read(0, 0, 0, 1);
        Due.due("torn by INDEX", x.torn(), INDEX);
        x.read(0, 0, 0, 0);
        Due.due("torn by none", x.torn(), 0);
    }

    /** "How many: 0 WHOLE LINES, 1 HEARD, 2 IMAGES, 3 bytes on THE TAPE, 4 CELLS of SHEET 0 (NONE: nothing)." */
    private static void counts() {
        ChalkRoads x = new ChalkRoads();
        int[] none = {0, 0, 0, 0, NONE, BAD};
        for (int what = 0; what < none.length; what++) {
            Due.due("count(" + what + ") of nothing", x.count(what), none[what]);
        }
        x = Worlds.full();
        int[] all = {12, 8, 2, 400, 40, BAD};
        for (int what = 0; what < all.length; what++) {
            Due.due("count(" + what + ") of all", x.count(what), all[what]);
        }
        x.sheet(0, 0, 0);
        Due.due("count(4) of no cells", x.count(4), 0);
        for (int l = 0; l < 12; l++) {
            x.rub(l, 0);
            Due.due("count(0) without " + l, x.count(0), 11 - l);
        }
    }

    /** "An object is used for at most 512 calls": the last ones answer as the first. */
    private static void lastOfManyCalls() {
        ChalkRoads x = new ChalkRoads();
        for (int call = 0; call < 512; call += 8) {
            Due.due("sheet, call " + call, x.sheet(3, 2, 40), 1);
            Due.due("lay, call " + call, x.lay(3, 39, MIN), 1);
            Due.due("keep, call " + call, x.keep(1), call == 0 ? 0 : 1);
            Due.due("plan, call " + call, x.plan(0, 4, 9), 0);
            Due.due("back, call " + call, x.back(1), 0);
            Due.due("feed, call " + call, x.feed(0x686f75736520343bL), 8);
            Due.due("end, call " + call, x.end(7), 8);
            Due.due("end, call " + call, x.end(0), 7);
        }
        String net = "points 4;house 0;house 3;" + "line 0 3 9 1;".repeat(12) + "one 0 3 1;one 3 0 2;" + "drawer 20;".repeat(5);
        x = Due.told(net);
        for (int call = 64; call < 512; call += 8) {
            Due.due("worst, call " + call, x.worst(0), 4);
            Due.due("lost, call " + call, x.lost(60), 2);
            Due.due("sure, call " + call, x.sure(1), 0);
            Due.due("share, call " + call, x.share(255, 1), 15);
            Due.due("share of line 7, call " + call, x.share(255, 17), 3);
            Due.due("way, call " + call, x.way(3, 0, 10), 0);
            Due.due("breaks, call " + call, x.breaks(0), 4096);
            Due.due("ask, call " + call, x.ask(1), 2048);
        }
    }
}
