/** Promises 21 to 27: a RUN, by quarters. */
final class RunTest {
    static void run() {
        twoLinesToTheGoal();
        startAndGoal();
        waiting();
        feetRub();
        laterOneSeesWhatAnEarlierOneRubbed();
        rainFirst();
        stormAndRoof();
        worst();
        runChangesNothing();
        arguments();
    }

    private static void where(ChalkRoads x, int p, int from, int... places) {
        for (int i = 0; i < places.length; i++) {
            Due.due("where(" + p + ", " + (from + i) + ")", x.where(p, from + i), places[i]);
        }
    }

    /** He goes in QUARTER 1, has two YARDS, comes, and goes again in the next QUARTER. */
    private static void twoLinesToTheGoal() {
        ChalkRoads x = Due.told("line 2 1 2 5; line 0 1 1 5; one 0 2 0;");
        where(x, 0, 0, 0, 101, 1, 100, 100, 2, 2);
        where(x, 0, 60, 2);
        Due.due("comes(0)", x.comes(0), 5);
        for (int q = 0; q <= 7; q++) {
            Due.due("strength(0, " + q + ")", x.strength(0, q), q < 5 ? 5 : 4);
            Due.due("strength(1, " + q + ")", x.strength(1, q), q < 2 ? 5 : 4);
        }
        Due.due("waited(0, 60)", x.waited(0, 60), 0);
        Due.due("lost(60)", x.lost(60), 0);
    }

    private static void startAndGoal() {
        ChalkRoads x = Due.told("line 0 1 1 9; one 0 1 40; one 1 0 3;");
        where(x, 0, 38, 0, 0, 0, 100, 1, 1);
        where(x, 1, 2, 1, 1, 100, 0);
        Due.due("comes(0)", x.comes(0), 42);
        Due.due("comes(1)", x.comes(1), 5);
        // not by QUARTER 60
        x = Due.told("line 0 1 9 9; line 1 2 9 9; one 0 2 40; one 0 1 40; one 0 3 0;");
        Due.due("comes too late", x.comes(0), 60);
        x = Due.told("line 0 1 9 9; line 1 2 9 9; line 2 3 1 1; one 0 3 40;");
        Due.due("comes not", x.comes(0), -4);
        where(x, 0, 59, 101, 2);
        x = Due.told("line 0 1 6 9; line 1 2 6 9; line 2 3 6 9; one 0 3 40;");
        where(x, 0, 60, 102);
        Due.due("comes in 61", x.comes(0), -4);
    }

    private static void waiting() {
        ChalkRoads x = Due.told("points 4; line 0 1 1 1; line 0 1 1 0; one 0 1 2; one 0 3 5;");
        // the first one has a way; the other one waits from QUARTER 6 on
        where(x, 0, 2, 0, 100, 1);
        Due.due("waited(0, 60)", x.waited(0, 60), 0);
        Due.due("waited(1, 0)", x.waited(1, 0), 0);
        Due.due("waited(1, 5)", x.waited(1, 5), 0);
        Due.due("waited(1, 6)", x.waited(1, 6), 1);
        Due.due("waited(1, 60)", x.waited(1, 60), 55);
        where(x, 1, 60, 0);
        Due.due("comes(1)", x.comes(1), -4);
        Due.due("lost(60)", x.lost(60), 0);
    }

    /** The one who comes rubs the LINE out below the others on it. */
    private static void feetRub() {
        ChalkRoads x = Due.told("line 0 1 3 2; one 0 1 0; one 1 0 1; one 0 1 2; one 0 1 9;");
        where(x, 0, 3, 100, 1);
        where(x, 1, 3, 100, 100, 0);
        where(x, 2, 3, 100, 100, -4, -4);
        Due.due("strength(0, 4)", x.strength(0, 4), 1);
        Due.due("strength(0, 5)", x.strength(0, 5), 0);
        Due.due("strength(0, 60)", x.strength(0, 60), 0);
        Due.due("lost(4)", x.lost(4), 0);
        Due.due("lost(5)", x.lost(5), 4);
        Due.due("comes(1)", x.comes(1), 5);
        Due.due("comes(2)", x.comes(2), -4);
        Due.due("waited(2, 60)", x.waited(2, 60), 0);
        Due.due("waited(3, 12)", x.waited(3, 12), 3);
        // one of a lower number is lost, too, though he would come in that QUARTER had he gone ahead
        x = Due.told("line 0 1 2 1; one 0 1 1; one 0 1 0;");
        where(x, 0, 2, 100, -4);
        where(x, 1, 3, 1);
        Due.due("lost(3)", x.lost(3), 1);
    }

    /** THE WAY is that of the LINES as they are then, not as they were at first. */
    private static void laterOneSeesWhatAnEarlierOneRubbed() {
        ChalkRoads x = Due.told("line 0 1 1 1; line 1 0 4 3; one 0 1 0; one 0 1 1; one 0 1 2;");
        where(x, 0, 1, 100, 1);
        where(x, 1, 1, 0, 101);
        where(x, 2, 2, 0, 101);
        Due.due("comes(1)", x.comes(1), 6);
        Due.due("comes(2)", x.comes(2), 7);
        // an earlier one in numbers only sets out on it in the same QUARTER, then is lost
        x = Due.told("line 0 1 1 1; line 1 0 4 3; one 0 1 1; one 0 1 0;");
        where(x, 0, 1, 0, -4);
        where(x, 1, 1, 100, 1);
    }

    private static void rainFirst() {
        // RAIN ahead of feet: in QUARTER 2 he would come
        ChalkRoads x = Due.told("line 0 1 1 1; one 0 1 0; rain 2;");
        where(x, 0, 1, 100, -4);
        Due.due("comes(0)", x.comes(0), -4);
        Due.due("lost(2)", x.lost(2), 1);
        // RAIN in QUARTER 1: he does not set out at all
        x = Due.told("line 0 1 1 1; one 0 1 0; rain 1;");
        where(x, 0, 1, 0, 0);
        Due.due("waited(0, 7)", x.waited(0, 7), 7);
        Due.due("lost(60)", x.lost(60), 0);
        // RAIN ahead of START and behind 0 rubs; not below 0, and not below a ROOF
        x = Due.told("line 0 1 9 2; line 0 1 9 2 roof; rain 2; rain 40; rain 3; rain 30;");
        int[] quarters = {0, 1, 2, 3, 30, 40, 60};
        int[] want = {2, 2, 1, 0, 0, 0, 0};
        for (int i = 0; i < quarters.length; i++) {
            Due.due("strength(0, " + quarters[i] + ")", x.strength(0, quarters[i]), want[i]);
            Due.due("strength(1, " + quarters[i] + ")", x.strength(1, quarters[i]), 2);
        }
        // one on a LINE that stays WHOLE is not lost
        x = Due.told("line 0 1 2 2; one 0 1 0; rain 2;");
        where(x, 0, 2, 100, 1);
        Due.due("strength(0, 3)", x.strength(0, 3), 0);
    }

    private static void stormAndRoof() {
        ChalkRoads x = Due.told("points 4; line 0 1 3 9; line 2 3 3 9 roof; one 0 1 0; one 2 3 0; one 1 0 2; one 3 0 0;");
        int[] want = {0, 1, 1, 5, 4, 4, 0};
        for (int q = 0; q < want.length; q++) {
            Due.due("storm(" + q + ")", x.storm(q), want[q]);
        }
        Due.due("storm(60)", x.storm(60), 0);
        Due.due("lost(60)", x.lost(60), 0);
        // who is lost already is on none
        x = Due.told("line 0 1 3 1; one 0 1 0; rain 2;");
        Due.due("storm(1)", x.storm(1), 1);
        Due.due("storm(2)", x.storm(2), 0);
    }

    private static void worst() {
        // one sets out in QUARTER 5, three YARDS: on the LINE behind 5, 6 and 7, comes in 8
        ChalkRoads x = Due.told("line 0 1 3 1; one 0 1 4;");
        Due.due("worst(0)", x.worst(0), 6);
        Due.due("worst(1)", x.worst(1), 1);
        // two LINES: in 6 one is lost, in 9 two
        x = Due.told("points 6; line 0 1 3 1; line 2 3 3 1; line 4 5 3 1; one 0 1 4; one 2 3 8; one 4 5 7;");
        Due.due("worst(0) most", x.worst(0), 10);
        Due.due("worst(1) most", x.worst(1), 2);
        // as it is told one is lost: more is two
        x.cloud(6, true);
        Due.due("worst(0) told none more", x.worst(0), -4);
        x = Due.told("points 6; line 0 1 3 1; line 2 3 3 2; one 0 1 4; one 2 3 10; rain 6;");
        Due.due("worst(0) behind rain", x.worst(0), 12);
        Due.due("worst(1) behind rain", x.worst(1), 2);
        // the last QUARTER in which RAIN may be
        x = Due.told("line 0 1 9 1; one 0 1 38;");
        Due.due("worst(0) at 40", x.worst(0), 40);
        x = Due.told("line 0 1 9 1; one 0 1 39;");
        Due.due("worst(0) behind 40", x.worst(0), -4);
        Due.due("worst(1) behind 40", x.worst(1), -4);
        // already in QUARTER 1: one who has set out before is on it
        x = Due.told("line 0 1 1 1; line 1 2 9 1; one 0 2 0;");
        Due.due("worst(0) first", x.worst(0), 2);
        lostAtTheEnd();
        Due.due("worst(2)", x.worst(2), -1);
        Due.due("worst(-1)", x.worst(-1), -1);
        Due.due("new worst(0)", new ChalkRoads().worst(0), -4);
    }

    /** Behind 60 counts who is lost in 60, not who would be in 61, in both RUNS. */
    private static void lostAtTheEnd() {
        ChalkRoads x = Due.told("points 4; line 0 1 9 9 roof; line 3 1 9 9 roof; line 1 2 9 2;"
            + " one 0 2 40; one 3 2 40;");
        Due.due("told lost(60)", x.lost(60), 0);
        Due.due("worst(0) in 60", x.worst(0), 1);
        Due.due("worst(1) in 60", x.worst(1), 1);
        x.cloud(40, true);
        Due.due("told lost(59) with rain", x.lost(59), 0);
        Due.due("told lost(60) with rain", x.lost(60), 2);
        Due.due("worst(0) told in 60", x.worst(0), -4);
        String in61 = "points 8; line 0 4 6 9 roof; line 4 1 6 9 roof; line 3 5 6 9 roof; line 5 1 6 9 roof;"
            + " line 1 2 6 2; one 0 2 40; one 3 2 40;";
        x = Due.told(in61);
        Due.due("worst(0) in 61", x.worst(0), -4);
        x = Due.told(in61 + " line 6 7 3 1; one 6 7 4; rain 40;");
        Due.due("told lost(60) ahead of 61", x.lost(60), 0);
        Due.due("worst(0) ahead of 61", x.worst(0), 6);
        Due.due("worst(1) ahead of 61", x.worst(1), 1);
    }

    private static void runChangesNothing() {
        ChalkRoads x = Due.told("line 0 1 3 1; one 0 1 0; rain 2;");
        Due.due("lost(60)", x.lost(60), 1);
        Due.due("worst(0)", x.worst(0), -4);
        Due.due("line(0, 3)", x.line(0, 3), 1);
        Due.due("rain(2)", x.rain(2), 1);
        Due.due("one(0, 0)", x.one(0, 0), 0);
        Due.due("where(0, 0)", x.where(0, 0), 0);
        Due.due("count(0)", x.count(0), 1);
        // nor does one stand in the way of another, though as many LINES are WHOLE then
        Due.due("way ahead", x.way(0, 1, 10), 0);
        Due.feed(x, "line 0 2 1 9; line 2 1 1 0; one 0 1 0;");
        Due.due("text behind a run", x.text(), 3);
        where(x, 0, 1, 0);
        Due.feed(x, "line 2 1 1 9; one 2 1 0; one 0 1 0;");
        Due.due("text behind another", x.text(), 3);
        where(x, 0, 1, 100, 1);
        where(x, 1, 1, 0, 0);
        Due.feed(x, "line 0 1 1 9; one 2 1 0; one 0 1 0;");
        Due.due("text behind a third", x.text(), 3);
        Due.due("way behind a run", x.way(0, 1, 0), 1);
        where(x, 0, 1, 2, 2);
        where(x, 1, 1, 100, 1);
    }

    private static void arguments() {
        ChalkRoads x = Due.told("line 0 1 3 1; one 0 1 0;");
        for (int q : new int[] {-1, 61}) {
            Due.due("where(0, " + q + ")", x.where(0, q), -1);
            Due.due("strength(0, " + q + ")", x.strength(0, q), -1);
            Due.due("waited(0, " + q + ")", x.waited(0, q), -1);
            Due.due("lost(" + q + ")", x.lost(q), -1);
            Due.due("storm(" + q + ")", x.storm(q), -1);
        }
        for (int i : new int[] {-1, 1, 12}) {
            Due.due("where(" + i + ", 0)", x.where(i, 0), -1);
            Due.due("strength(" + i + ", 0)", x.strength(i, 0), -1);
            Due.due("comes(" + i + ")", x.comes(i), -1);
            Due.due("waited(" + i + ", 0)", x.waited(i, 0), -1);
        }
        Due.due("where(0, 60)", x.where(0, 60), 1);
        Due.due("strength(0, 60)", x.strength(0, 60), 0);
    }
}
