import java.util.Arrays;

/** Promises 12 to 15, sentence by sentence: tasks, the soonest way and safe fields at their edges. */
public final class EdgeWayTest {
    private static final int[] FAR = {Integer.MIN_VALUE, -2, -1, Integer.MAX_VALUE};
    private static final String STILL = "glider g sink 0 0 0 0 handicap 100;";

    public static void main(String[] args) {
        whatATaskCanBe();
        aTaskThatCannotBeDoesNothing();
        flownAsItBegins();
        aToldHeight();
        roundedInOrder();
        severalAtOnce();
        asAMoveEnds();
        atMoment36();
        theFirstByNumber();
        waitingForAWall();
        shutWhereItBegins();
        oneIsNone();
        theKthMove();
        theWholeDay();
        inTheHoursOfTheDay();
        upToTheTopAndNoMore();
        fromBelowTheTop();
        slowOnesOnTheWay();
        inTheLastCell();
        noWaitingAtTheEdge();
        oneQuestionBehindAnother();
        theZoneIsOfTracesAlone();
        safeWithNoMoves();
        safeByGlidingAlone();
        safeInAllFields();
        safeWhateverTheTask();
        safeIsNone();
        Due.close();
    }

    private static void ways(SoarHouse house, int[] start, int soonest, int... moves) {
        String name = Arrays.toString(start);
        Due.is("soonest " + name, house.soonest(start[0], start[1], start[2], start[3], start[4]), soonest);
        for (int k = 0; k < moves.length; k++) {
            Due.is("way " + name + " " + k, house.way(start[0], start[1], start[2], start[3], start[4], k), moves[k]);
        }
        Due.is("no more " + name, house.way(start[0], start[1], start[2], start[3], start[4], moves.length), -1);
        Due.is("none ahead " + name, house.way(start[0], start[1], start[2], start[3], start[4], -1), -1);
    }

    private static int[] from(int cell, int moment, int height, int finish) {
        return new int[] {0, cell, moment, height, finish};
    }

    /** "The TASK (CELLS; NONE for turning points that are not; none behind such a one)". */
    private static void whatATaskCanBe() {
        int[] values = {Integer.MIN_VALUE, -2, -1, 0, 63, 64, Integer.MAX_VALUE};
        for (int a : values) {
            for (int b : values) {
                for (int c : values) {
                    for (int finish : values) {
                        boolean cells = isCell(finish) && (isCell(a) || a == -1) && (isCell(b) || b == -1) && (isCell(c) || c == -1);
                        boolean gap = a == -1 && b != -1 || b == -1 && c != -1;
                        SoarHouse house = new SoarHouse();
                        boolean can = cells && !gap;
                        Due.is("task " + a + " " + b + " " + c + " " + finish, house.task(a, b, c, finish), can);
                        Due.is("there is one", house.about(10), can ? 1 : 0);
                    }
                }
            }
        }
    }

    private static boolean isCell(int cell) {
        return cell >= 0 && cell <= 63;
    }

    /** "false, doing nothing, if it can't be". */
    private static void aTaskThatCannotBeDoesNothing() {
        SoarHouse house = Due.on(STILL);
        house.task(2, 4, -1, 0);
        int[][] wrong = {{1, 2, 3, 64}, {1, 2, 3, -1}, {1, 2, 64, 4}, {1, 64, 3, 4}, {64, 2, 3, 4}, {-1, 2, 3, 4},
            {-1, -1, 3, 4}, {1, -1, 3, 4}, {-2, -1, -1, 4}, {1, -2, -1, 4}, {1, 2, -2, 4}};
        for (int[] w : wrong) {
            Due.is("task " + Arrays.toString(w), house.task(w[0], w[1], w[2], w[3]), false);
            Due.is("the one ahead stays", house.soonest(0, 0, 0, 0, 0), 8);
        }
        house.pilot(0);
        house.fix(0, 3, 2, 0);
        Due.is("its points stay", house.rounded(0, false, 0), 1);
        Due.is("its legs stay", house.flown(0, 1, 0), 0 + 2 + 4);
    }

    /** "as it begins": flown with no MOVE at all. */
    private static void flownAsItBegins() {
        SoarHouse house = Due.on(STILL);
        for (int moment : new int[] {0, 5, 35, 36}) {
            house.task(-1, -1, -1, 9);
            ways(house, from(9, moment, 7, 7), moment);
            house.task(9, -1, -1, 9);
            ways(house, from(9, moment, 7, 0), moment);
            house.task(9, 9, 9, 9);
            ways(house, from(9, moment, 40, 40), moment);
        }
    }

    /** "in the finish with at least a told height". */
    private static void aToldHeight() {
        SoarHouse house = Due.on("glider g sink 1 1 1 1 handicap 100;");
        house.task(-1, -1, -1, 2);
        ways(house, from(0, 0, 9, 7), 2, 9, 9);
        ways(house, from(0, 0, 9, 8), -1);
        ways(house, from(0, 0, 2, 0), 2, 9, 9);
        ways(house, from(0, 0, 1, 0), -1);
        ways(house, from(0, 0, 40, 38), 2, 9, 9);
        ways(house, from(0, 0, 40, 39), -1);
        ways(house, from(2, 0, 5, 5), 0);
        ways(house, from(2, 0, 5, 6), -1);
        SoarHouse lifting = Due.on("row 0 bbbbbbbb; row 1 bbbbbbbb; lift a 9 9 9 9 9 9; glider g sink 0 1 1 1 handicap 100;");
        lifting.task(-1, -1, -1, 16);
        ways(lifting, from(16, 0, 31, 40), 1, 0);
        ways(lifting, from(16, 0, 30, 40), 2, 0, 0);
        ways(lifting, from(0, 0, 2, 0), 2, 12, 18);
        ways(lifting, from(0, 0, 2, 9), 3, 12, 18, 0);
    }

    /** "They are rounded in order: one when a glider is in its CELL .. and all ahead of it are". */
    private static void roundedInOrder() {
        SoarHouse house = Due.on(STILL);
        house.task(2, 1, -1, 0);
        ways(house, from(0, 0, 0, 0), 4, 9, 9, 21, 21);
        house.task(1, 2, -1, 0);
        ways(house, from(0, 0, 0, 0), 4, 9, 9, 18, 24);
        house.task(2, -1, -1, 0);
        ways(house, from(0, 0, 0, 0), 4, 9, 9, 18, 24);
        house.task(1, 0, 1, 0);
        ways(house, from(0, 0, 0, 0), 4, 9, 21, 9, 21);
        house.task(0, 1, 0, 1);
        ways(house, from(0, 0, 0, 0), 3, 9, 21, 9);
        house.task(1, 2, 3, 4);
        ways(house, from(0, 0, 0, 0), 4, 9, 9, 9, 9);
        house.task(3, 2, 1, 0);
        ways(house, from(0, 0, 0, 0), 6, 9, 9, 9, 21, 21, 21);
        ways(house, from(3, 0, 0, 0), 3, 21, 21, 21);
        ways(house, from(2, 0, 0, 0), 4, 9, 21, 21, 21);
    }

    /** "(several at once, if they lie so)". */
    private static void severalAtOnce() {
        SoarHouse house = Due.on(STILL);
        house.task(1, 1, 1, 1);
        ways(house, from(0, 0, 0, 0), 1, 9);
        ways(house, from(1, 0, 0, 0), 0);
        house.task(1, 1, 0, 0);
        ways(house, from(0, 0, 0, 0), 2, 9, 21);
        house.task(0, 0, 1, 1);
        ways(house, from(0, 0, 0, 0), 1, 9);
        house.task(0, 0, 0, 1);
        ways(house, from(0, 0, 0, 0), 1, 9);
        ways(house, from(1, 0, 0, 0), 2, 21, 9);
        house.task(1, 0, 0, 1);
        ways(house, from(1, 0, 0, 0), 2, 21, 9);
    }

    /** "or as a MOVE ends"; in the finish too low it is not flown yet. */
    private static void asAMoveEnds() {
        SoarHouse house = Due.on("lift a 5 5 5 5 5 5; row 0 bbbbbbbb; glider g sink 0 1 1 1 handicap 100;");
        house.task(-1, -1, -1, 1);
        ways(house, from(0, 0, 3, 2), 1, 9);
        ways(house, from(0, 0, 3, 3), 3, 12, 0, 3);
        house.task(1, -1, -1, 1);
        ways(house, from(0, 0, 3, 3), 3, 12, 0, 3);
        house.task(1, 0, -1, 1);
        ways(house, from(0, 0, 3, 0), 3, 9, 21, 9);
        ways(house, from(1, 0, 2, 0), 2, 21, 9);
        ways(house, from(1, 0, 2, 1), 4, 15, 0, 24, 9);
    }

    /** "at a moment 36 at most". */
    private static void atMoment36() {
        SoarHouse house = Due.on(STILL);
        house.task(7, -1, -1, 0);
        ways(house, from(0, 22, 0, 0), 36, 9, 9, 9, 9, 9, 9, 9, 18, 18, 18, 21, 24, 24, 24);
        ways(house, from(0, 23, 0, 0), -1);
        house.task(-1, -1, -1, 1);
        ways(house, from(0, 35, 0, 0), 36, 9);
        ways(house, from(0, 36, 0, 0), -1);
        ways(house, from(1, 36, 0, 0), 36);
        ways(house, from(1, 36, 0, 1), -1);
        SoarHouse slow = Due.on("glider g sink 9 1 9 9 handicap 100;");
        slow.task(-1, -1, -1, 1);
        ways(slow, from(0, 33, 1, 0), 36, 7);
        ways(slow, from(0, 34, 1, 0), -1);
    }

    /** "of like ones the MOVES that are first by number, one by one". */
    private static void theFirstByNumber() {
        SoarHouse house = Due.on(STILL);
        house.task(-1, -1, -1, 10);
        ways(house, from(8, 0, 0, 0), 2, 6, 12);
        house.task(-1, -1, -1, 2);
        ways(house, from(0, 0, 0, 0), 2, 9, 9);
        house.task(-1, -1, -1, 8);
        ways(house, from(10, 0, 0, 0), 2, 18, 24);
        house.task(-1, -1, -1, 57);
        ways(house, from(59, 0, 0, 0), 2, 21, 21);
        house.task(-1, -1, -1, 16);
        ways(house, from(0, 0, 0, 0), 2, 12, 18);
        house.task(-1, -1, -1, 1);
        ways(house, from(17, 0, 0, 0), 2, 3, 3);
        house.task(-1, -1, -1, 36);
        ways(house, from(34, 3, 9, 9), 5, 6, 12);
    }

    /** Of ways that are like long by their moments one of more MOVES may be the first. */
    private static void waitingForAWall() {
        SoarHouse house = Due.on("wall 1 0 above 4 from 0 to 3;" + STILL);
        house.task(-1, -1, -1, 1);
        ways(house, from(0, 0, 5, 5), 3, 0, 0, 9);
        ways(house, from(0, 1, 5, 5), 3, 0, 9);
        ways(house, from(0, 2, 5, 5), 3, 9);
        ways(house, from(0, 0, 4, 0), 1, 9);
        SoarHouse sinking = Due.on("wall 1 0 above 4 from 0 to 3; glider g sink 1 0 0 0 handicap 100;");
        sinking.task(-1, -1, -1, 1);
        ways(sinking, from(0, 0, 5, 5), 3, 7);
        ways(sinking, from(0, 0, 5, 3), 2, 0, 9);
        ways(sinking, from(0, 0, 6, 4), 3, 0, 0, 9);
        ways(sinking, from(0, 0, 40, 40), 3, 7);
        ways(sinking, from(0, 0, 40, 39), 3, 0, 8);
    }

    /** "or it is shut where it begins". */
    private static void shutWhereItBegins() {
        SoarHouse house = Due.on("wall 0 0 above 4 from 2 to 5; field 0 0;" + STILL);
        house.task(-1, -1, -1, 0);
        for (int moment = 0; moment < 8; moment++) {
            boolean has = moment >= 2 && moment < 5;
            Due.is("above it at " + moment, house.soonest(0, 0, moment, 5, 0), has ? -1 : moment);
            Due.is("beneath it at " + moment, house.soonest(0, 0, moment, 4, 0), moment);
            Due.is("safe above it", house.safe(0, 0, moment, 5), has ? -1 : 1);
            Due.is("safe beneath it", house.safe(0, 0, moment, 4), 1);
        }
        house.task(-1, -1, -1, 1);
        Due.is("nor elsewhere", house.soonest(0, 0, 2, 5, 0), -1);
        Due.is("nor a way", house.way(0, 0, 2, 5, 0, 0), -1);
        Due.is("a way beneath it", house.way(0, 0, 2, 4, 0, 0), 9);
    }

    /** "NONE if it can't be flown, without a TASK, or one is none". */
    private static void oneIsNone() {
        SoarHouse house = Due.on(STILL + "glider h sink 0 0 0 0 handicap 100;");
        Due.is("without a task", house.soonest(0, 0, 0, 0, 0), -1);
        Due.is("no way without a task", house.way(0, 0, 0, 0, 0, 0), -1);
        house.task(-1, -1, -1, 1);
        for (int far : FAR) {
            Due.is("glider", house.soonest(far, 0, 0, 0, 0), -1);
            Due.is("cell", house.soonest(0, far, 0, 0, 0), -1);
            Due.is("moment", house.soonest(0, 0, far, 0, 0), -1);
            Due.is("height", house.soonest(0, 0, 0, far, 0), -1);
            Due.is("finish", house.soonest(0, 0, 0, 0, far), -1);
            Due.is("way of a glider", house.way(far, 0, 0, 0, 0, 0), -1);
            Due.is("way from a cell", house.way(0, far, 0, 0, 0, 0), -1);
            Due.is("way from a moment", house.way(0, 0, far, 0, 0, 0), -1);
            Due.is("way from a height", house.way(0, 0, 0, far, 0, 0), -1);
            Due.is("way to a height", house.way(0, 0, 0, 0, far, 0), -1);
        }
        Due.is("the last of all", house.soonest(1, 63, 29, 40, 40), 36);
        Due.is("glider 2", house.soonest(2, 63, 29, 40, 40), -1);
        Due.is("cell 64", house.soonest(1, 64, 29, 40, 40), -1);
        Due.is("moment 37", house.soonest(1, 1, 37, 40, 40), -1);
        Due.is("height 41", house.soonest(1, 63, 29, 41, 40), -1);
        Due.is("finish 41", house.soonest(1, 63, 29, 40, 41), -1);
        Due.is("way to finish 41", house.way(1, 63, 29, 40, 41, 0), -1);
    }

    /** "The k-th MOVE of it; NONE if there is none such". */
    private static void theKthMove() {
        SoarHouse house = Due.on(STILL);
        house.task(3, -1, -1, 5);
        int[] moves = {9, 9, 9, 9, 9};
        for (int k = -3; k < 9; k++) {
            Due.is("move " + k, house.way(0, 0, 0, 0, 0, k), k >= 0 && k < 5 ? moves[k] : -1);
        }
        for (int far : FAR) {
            Due.is("move " + far, house.way(0, 0, 0, 0, 0, far), -1);
        }
        Due.is("asked for without soonest", house.way(0, 0, 0, 7, 7, 4), 9);
        Due.is("then another way", house.way(0, 1, 0, 7, 7, 4), -1);
        Due.is("and back", house.way(0, 0, 0, 7, 7, 4), 9);
    }

    /** A way of 36 MOVES, one in each STEP. */
    private static void theWholeDay() {
        SoarHouse house = Due.on("lift a 1 1 1 1 1 1; glider g sink 0 30 30 30 handicap 100;");
        house.task(-1, -1, -1, 0);
        Due.is("soonest", house.soonest(0, 0, 0, 0, 36), 36);
        for (int k = 0; k < 36; k++) {
            Due.is("move " + k, house.way(0, 0, 0, 0, 36, k), 0);
        }
        Due.is("move 36", house.way(0, 0, 0, 0, 36, 36), -1);
        Due.is("a step too many", house.soonest(0, 0, 0, 0, 37), -1);
        Due.is("a step less", house.soonest(0, 0, 0, 0, 35), 35);
    }

    /** "MOVES, in the HOUR of the STEP in which they begin", on a way through the day. */
    private static void inTheHoursOfTheDay() {
        SoarHouse house = Due.on("lift a 0 0 5 0 0 1; glider g sink 0 30 30 30 handicap 100;");
        house.task(-1, -1, -1, 0);
        for (int finish = 1; finish <= 30; finish++) {
            Due.is("rising in the third hour to " + finish, house.soonest(0, 0, 0, 0, finish), 12 + (finish + 4) / 5);
        }
        Due.is("and in the last", house.soonest(0, 0, 0, 0, 31), 31);
        Due.is("to its end", house.soonest(0, 0, 0, 0, 36), 36);
        Due.is("no more", house.soonest(0, 0, 0, 0, 37), -1);
        Due.is("from the third on", house.soonest(0, 0, 17, 0, 5), 18);
        Due.is("too late for it", house.soonest(0, 0, 18, 0, 5), 35);
        SoarHouse windy = Due.on("wind 0 w 2; wind 2 e 2; wind 3 w 3; glider g sink 0 30 30 2 handicap 100;");
        windy.task(-1, -1, -1, 3);
        ways(windy, from(0, 0, 12, 0), 3, 9, 9, 9);
        ways(windy, from(0, 0, 11, 0), 13, 0, 0, 0, 0, 0, 0, 0, 0, 0, 0, 9, 9, 9);
        ways(windy, from(0, 9, 9, 9), 15, 0, 0, 0, 9, 9, 9);
        ways(windy, from(0, 16, 5, 0), 19, 9, 9, 9);
        ways(windy, from(0, 16, 4, 0), -1);
        ways(windy, from(0, 18, 14, 0), -1);
        ways(windy, from(0, 18, 15, 0), 21, 9, 9, 9);
    }

    /** "if that is above the top, and above the height it had, it is the greater one of top and that height". */
    private static void upToTheTopAndNoMore() {
        SoarHouse house = Due.on("lift a 3 3 3 3 3 3; top 0 5; top 1 9; glider g sink 0 1 1 1 handicap 100;");
        house.task(-1, -1, -1, 0);
        for (int height = 0; height <= 5; height++) {
            int steps = height >= 5 ? 0 : height >= 2 ? 1 : 2;
            Due.is("to the top from " + height, house.soonest(0, 0, 0, height, 5), steps);
            Due.is("above it in the next hour from " + height, house.soonest(0, 0, 0, height, 6), 7);
        }
        Due.is("to the next top", house.soonest(0, 0, 0, 0, 9), 8);
        Due.is("not above it", house.soonest(0, 0, 0, 0, 10), -1);
        Due.is("from above it", house.soonest(0, 0, 0, 10, 10), 0);
        house.task(1, -1, -1, 0);
        ways(house, from(0, 0, 3, 4), 3, 9, 0, 21);
        ways(house, from(0, 0, 3, 3), 3, 0, 9, 21);
        ways(house, from(0, 0, 4, 5), 3, 9, 21, 0);
        ways(house, from(0, 0, 10, 8), 2, 9, 21);
        ways(house, from(0, 0, 10, 9), 7, 0, 0, 0, 0, 9, 21, 0);
        SoarHouse walled = Due.on("lift a 9 9 9 9 9 9; top 0 5; wall 1 0 above 0 from 0 to 36; wall 0 1 above 0 from 0 to 36;"
            + "wall 1 1 above 0 from 0 to 36; glider g sink 0 0 0 0 handicap 100;");
        walled.task(-1, -1, -1, 1);
        ways(walled, from(0, 0, 0, 0), 1, 9);
        Due.is("not beneath a wall by rising", walled.soonest(0, 0, 0, 1, 0), 36);
        SoarHouse open = Due.on("lift a 1 1 1 1 1 1; wall 1 0 above 0 from 0 to 36; glider g sink 0 0 0 0 handicap 100;");
        open.task(-1, -1, -1, 1);
        Due.is("nor by rising slowly", open.soonest(0, 0, 0, 1, 0), 36);
        Due.is("nor by staying", open.soonest(0, 7, 3, 40, 0), 36);
    }

    /** On a way that circling ends: those heights lead to the top from which it is come to in one STEP, no other. */
    private static void fromBelowTheTop() {
        SoarHouse house = Due.on("lift a 3 3 3 3 3 3; top 0 5; glider g sink 0 1 1 1 handicap 100;");
        house.task(-1, -1, -1, 0);
        ways(house, from(1, 0, 3, 5), 2, 21, 0);
        ways(house, from(1, 0, 4, 5), 2, 21, 0);
        ways(house, from(1, 0, 5, 5), 2, 21, 0);
        ways(house, from(1, 0, 2, 5), 3, 0, 21, 0);
        StringBuilder text = new StringBuilder("row 0 abbbbbbb;");
        for (int y = 1; y < 8; y++) {
            text.append("row ").append(y).append(" bbbbbbbb;");
        }
        text.append("lift a 4 4 4 4 4 4; top 0 5; wall 0 0 above 0 from 0 to 3; glider g sink 1 1 2 1 handicap 100;");
        SoarHouse waiting = Due.on(text.toString());
        waiting.task(-1, -1, -1, 0);
        ways(waiting, from(1, 0, 4, 5), 4, 19, 0);
        ways(waiting, from(1, 0, 5, 5), 4, 0, 0, 21, 0);
    }

    /** A slow or middling MOVE that is not the first one. */
    private static void slowOnesOnTheWay() {
        SoarHouse house = Due.on("glider g sink 30 1 3 9 handicap 100;");
        house.task(-1, -1, -1, 3);
        ways(house, from(0, 0, 27, 0), 3, 9, 9, 9);
        ways(house, from(0, 0, 26, 0), 4, 8, 9, 9);
        ways(house, from(0, 0, 20, 0), 5, 7, 9, 9);
        ways(house, from(0, 0, 18, 0), 5, 8, 8, 9);
        ways(house, from(0, 0, 14, 0), 6, 7, 8, 9);
        ways(house, from(0, 0, 10, 0), 6, 8, 8, 8);
        ways(house, from(0, 0, 8, 0), 7, 7, 8, 8);
        ways(house, from(0, 0, 6, 0), 8, 7, 7, 8);
        ways(house, from(0, 0, 4, 0), 9, 7, 7, 7);
        ways(house, from(0, 0, 2, 0), -1);
        SoarHouse twice = Due.on("row 0 baaaaaaa; lift b 20 20 20 20 20 20; glider g sink 0 0 30 30 handicap 100;");
        twice.task(1, -1, -1, 0);
        ways(twice, from(0, 0, 0, 0), 6, 0, 0, 7, 21);
    }

    /** The last CELL, moment and height. */
    private static void inTheLastCell() {
        SoarHouse house = Due.on(STILL);
        house.task(-1, -1, -1, 63);
        ways(house, from(62, 35, 40, 40), 36, 9);
        ways(house, from(61, 34, 40, 40), 36, 6, 12);
        ways(house, from(0, 29, 40, 40), 36, 12, 12, 12, 12, 12, 12, 12);
        house.task(63, 62, -1, 63);
        ways(house, from(62, 33, 40, 40), 36, 9, 21, 9);
        house.task(63, 62, 63, 62);
        ways(house, from(63, 33, 40, 37), 36, 21, 9, 21);
        ways(house, from(63, 33, 37, 37), 36, 21, 9, 21);
        house.task(-1, -1, -1, 56);
        ways(house, from(57, 35, 40, 40), 36, 21);
    }

    /** Who glides over the edge ends in no CELL, so nobody waits by that. */
    private static void noWaitingAtTheEdge() {
        int[] corners = {0, 7, 56, 63};
        for (int corner : corners) {
            int x = corner % 8;
            int y = corner / 8;
            int besideX = x == 0 ? 1 : 6;
            int besideY = y == 0 ? 1 : 6;
            String wall = " above 0 from 0 to 10;";
            SoarHouse house = Due.on("wall " + besideX + " " + y + wall + "wall " + x + " " + besideY + wall + "wall " + besideX
                + " " + besideY + wall + "field " + besideX + " " + y + "; glider g sink 30 0 0 0 handicap 100;");
            house.task(-1, -1, -1, 8 * y + besideX);
            for (int moment = 0; moment < 12; moment++) {
                int soonest = moment < 7 ? -1 : moment < 9 ? 10 : moment + 1;
                Due.is("from " + corner + " at " + moment, house.soonest(0, corner, moment, 5, 0), soonest);
                Due.is("safe from " + corner + " at " + moment, house.safe(0, corner, moment, 5), moment < 7 ? 0 : 1);
            }
        }
    }

    /** Each question is answered by what was asked for then: the TASK, the MAP, the glider and all else. */
    private static void oneQuestionBehindAnother() {
        SoarHouse house = Due.on("glider g sink 0 0 0 3 handicap 100; glider h sink 0 0 0 0 handicap 100;");
        house.task(-1, -1, -1, 2);
        Due.is("first", house.soonest(0, 0, 0, 6, 0), 2);
        Due.is("another glider", house.soonest(1, 0, 0, 6, 6), 2);
        Due.is("that glider not so", house.soonest(0, 0, 0, 6, 6), 4);
        Due.is("the other way", house.way(1, 0, 0, 6, 6, 0), 9);
        Due.is("that way", house.way(0, 0, 0, 6, 6, 0), 8);
        Due.is("another cell", house.soonest(0, 1, 0, 6, 6), 2);
        Due.is("another moment", house.soonest(0, 1, 1, 6, 6), 3);
        Due.is("another height", house.soonest(0, 1, 1, 9, 6), 2);
        Due.is("another finish", house.soonest(0, 1, 1, 9, 7), 3);
        house.task(-1, -1, -1, 3);
        Due.is("another task", house.soonest(0, 1, 1, 9, 7), 5);
        Due.is("a refused task", house.task(-1, -1, -1, 64), false);
        Due.is("none behind it", house.soonest(0, 1, 1, 9, 7), 5);
        Due.is("a refused question", house.soonest(2, 1, 1, 9, 7), -1);
        Due.is("as ahead of it", house.soonest(0, 1, 1, 9, 7), 5);
        Due.is("safe between them", house.safe(0, 1, 1, 9), 0);
        Due.is("asked like that", house.soonest(0, 1, 1, 9, 0), 3);
        Due.is("and not so", house.soonest(0, 1, 1, 9, 7), 5);
        Due.is("safe from elsewhere", house.safe(0, 2, 1, 9), 0);
        Due.is("soonest from there", house.soonest(0, 2, 1, 9, 0), 2);
        Due.is("and back", house.soonest(0, 1, 1, 9, 7), 5);
        Due.is("safe once more", house.safe(0, 63, 36, 0), 0);
        Due.is("as ahead of that", house.way(0, 1, 1, 9, 7, 1), 8);
        Due.map(house, "glider g sink 0 9 9 0 handicap 100;");
        Due.is("another map", house.soonest(0, 1, 1, 9, 7), 3);
        Due.is("its way", house.way(0, 1, 1, 9, 7, 0), 9);
        Due.map(house, "");
        Due.is("without gliders", house.soonest(0, 1, 1, 9, 7), -1);
    }

    private static void theZoneIsOfTracesAlone() {
        SoarHouse house = Due.on(STILL);
        house.task(5, -1, -1, 0);
        house.zone(3);
        Due.is("to the cell itself", house.soonest(0, 0, 0, 0, 0), 10);
    }

    /** "(0 MOVES too)". */
    private static void safeWithNoMoves() {
        SoarHouse house = Due.on("field 3 3; glider g sink 30 30 30 30 handicap 100;");
        for (int moment : new int[] {0, 35, 36}) {
            Due.is("in a field", house.safe(0, 27, moment, 0), 1);
            Due.is("beside it", house.safe(0, 28, moment, 0), 0);
        }
        Due.is("beside it, high enough", house.safe(0, 28, 33, 30), 1);
        Due.is("by one step", house.safe(0, 28, 35, 30), 1);
        Due.is("not at the end of the day", house.safe(0, 28, 36, 30), 0);
        Due.is("too low by one", house.safe(0, 28, 33, 29), 0);
        Due.is("askew it loses more", house.safe(0, 36, 0, 40), 0);
    }

    /** "can come to be by gliding alone": no lift helps, walls hinder. */
    private static void safeByGlidingAlone() {
        SoarHouse house = Due.on("lift a 20 20 20 20 20 20; field 7 0; glider g sink 0 3 3 3 handicap 100;");
        Due.is("seven times three", house.safe(0, 0, 0, 21), 1);
        Due.is("one less", house.safe(0, 0, 0, 20), 0);
        Due.is("in seven steps", house.safe(0, 0, 29, 21), 1);
        Due.is("not in six", house.safe(0, 0, 30, 40), 0);
        SoarHouse walled = Due.on("field 7 0; wall 7 0 above 0 from 0 to 36; glider g sink 0 5 5 5 handicap 100;");
        for (int height = 0; height < 15; height++) {
            boolean down = height == 5 || height == 12;
            Due.is("beneath the wall, straight or askew, from " + height, walled.safe(0, 6, 0, height), down ? 1 : 0);
        }
        Due.is("at the end of the day it is open", walled.safe(0, 6, 35, 40), 1);
        Due.is("in two steps", walled.safe(0, 6, 34, 40), 1);
        Due.is("shut where it begins", walled.safe(0, 7, 35, 40), -1);
        Due.is("open where it begins", walled.safe(0, 7, 36, 40), 1);
    }

    private static void safeInAllFields() {
        StringBuilder text = new StringBuilder(STILL);
        for (int cell = 0; cell < 64; cell++) {
            text.append("field ").append(cell % 8).append(' ').append(cell / 8).append(';');
        }
        SoarHouse house = Due.on(text.toString());
        Due.is("all", house.safe(0, 0, 0, 0), 64);
        Due.is("in time", house.safe(0, 0, 29, 0), 64);
        Due.is("some", house.safe(0, 0, 30, 0), 49);
        Due.is("four", house.safe(0, 0, 35, 0), 4);
        Due.is("nine", house.safe(0, 27, 35, 0), 9);
        Due.is("one", house.safe(0, 27, 36, 0), 1);
        SoarHouse none = Due.on(STILL);
        Due.is("no fields", none.safe(0, 0, 0, 40), 0);
    }

    private static void safeWhateverTheTask() {
        SoarHouse house = Due.on("field 0 0; field 3 0; field 7 7;" + STILL);
        Due.is("without a task", house.safe(0, 0, 33, 0), 2);
        int[][] tasks = {{0, -1, -1, 0}, {0, 1, 2, 3}, {3, 2, 1, 0}, {0, 0, 0, 0}, {-1, -1, -1, 3}, {63, 63, 63, 63}};
        for (int[] t : tasks) {
            house.task(t[0], t[1], t[2], t[3]);
            Due.is("with a task", house.safe(0, 0, 33, 0), 2);
            house.soonest(0, 0, 0, 0, 0);
            Due.is("behind soonest", house.safe(0, 0, 33, 0), 2);
            Due.is("one", house.safe(0, 63, 33, 0), 1);
        }
    }

    /** "NONE if one is none, or it is shut where it begins"; a TASK is not asked for. */
    private static void safeIsNone() {
        SoarHouse house = Due.on("field 7 7;" + STILL);
        for (int far : FAR) {
            Due.is("glider", house.safe(far, 0, 0, 0), -1);
            Due.is("cell", house.safe(0, far, 0, 0), -1);
            Due.is("moment", house.safe(0, 0, far, 0), -1);
            Due.is("height", house.safe(0, 0, 0, far), -1);
        }
        Due.is("the last of all", house.safe(0, 63, 36, 40), 1);
        Due.is("glider 1", house.safe(1, 63, 36, 40), -1);
        Due.is("cell 64", house.safe(0, 64, 36, 40), -1);
        Due.is("moment 37", house.safe(0, 63, 37, 40), -1);
        Due.is("height 41", house.safe(0, 63, 36, 41), -1);
    }
}
