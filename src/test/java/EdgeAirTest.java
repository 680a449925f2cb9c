/** Promises 7 to 11, sentence by sentence: lifts, winds, tops, walls and single moves at their edges. */
public final class EdgeAirTest {
    private static final int[] FAR = {Integer.MIN_VALUE, -2, -1, Integer.MAX_VALUE};
    private static final int[] DX = {0, 1, 1, 1, 0, -1, -1, -1};
    private static final int[] DY = {-1, -1, 0, 1, 1, 1, 0, -1};

    public static void main(String[] args) {
        lifts();
        winds();
        aWindOfNoStrength();
        tops();
        noSuchHour();
        shutAboveInItsSteps();
        severalWallsInACell();
        noSuchPlace();
        circlingUpToTheTop();
        circlingAboveTheTop();
        circlingEverywhere();
        circlingIntoAWall();
        glidingOverTheEdge();
        glidingTakesSteps();
        halfOfItCut();
        theWindHelpsAndHinders();
        theHourInWhichItBegins();
        downToTheGround();
        whereItEndsIsShut();
        whereItBeginsMayBeShut();
        noSuchMove();
        Due.close();
    }

    private static int at(int height, int moment, int cell) {
        return 6400 * height + 100 * moment + cell;
    }

    /** "What a CELL's ground lifts in an HOUR"; "all a if not told"; "0 .. 20 each; 0 if not told". */
    private static void lifts() {
        StringBuilder text = new StringBuilder("row 0 abcdefgh;row 7 hgfedcba;");
        for (int g = 0; g < 7; g++) {
            text.append("lift ").append((char) ('a' + g));
            for (int hour = 0; hour < 6; hour++) {
                text.append(' ').append(g == 6 ? 20 : 3 * g - g / 6 + (hour + g) % 3);
            }
            text.append(';');
        }
        SoarHouse house = Due.on(text.toString());
        for (int cell = 0; cell < 64; cell++) {
            int g = cell < 8 ? cell : cell >= 56 ? 63 - cell : 0;
            for (int hour = 0; hour < 6; hour++) {
                int lift = g == 7 ? 0 : g == 6 ? 20 : 3 * g - g / 6 + (hour + g) % 3;
                Due.is("lift " + cell + " " + hour, house.lift(cell, hour), lift);
            }
        }
    }

    /** "from an HOUR on it blows ..", "none ahead of the first". */
    private static void winds() {
        for (int first = 0; first < 6; first++) {
            for (int second = 0; second < 6; second++) {
                SoarHouse house = Due.on(first == second ? "wind " + first + " w 3;"
                    : "wind " + first + " w 3; wind " + second + " s 1;");
                for (int hour = 0; hour < 6; hour++) {
                    int want = 0;
                    for (int h = 0; h <= hour; h++) {
                        want = h == first ? 15 : h == second ? 6 : want;
                    }
                    Due.is("wind in " + hour, house.wind(hour), want);
                }
            }
        }
    }

    /** "4 * strength, and 0 north, 1 east, 2 south, 3 west (0 if there is none)". */
    private static void aWindOfNoStrength() {
        SoarHouse house = Due.on("wind 1 e 3;wind 2 s 0;wind 3 w 0;wind 4 e 0;wind 5 n 0; glider g sink 1 1 1 2 handicap 100;");
        int[] want = {0, 13, 2, 3, 1, 0};
        for (int hour = 0; hour < 6; hour++) {
            Due.is("wind in " + hour, house.wind(hour), want[hour]);
            Due.is("east in " + hour, house.move(0, 0, 6 * hour, 9, 9), at(hour == 1 ? 9 : 7, 6 * hour + 1, 1));
        }
    }

    /** "top: from an HOUR on (1 .. 40; 40 ahead of the first)". */
    private static void tops() {
        for (int first = 0; first < 6; first++) {
            for (int second = 0; second < 6; second++) {
                SoarHouse house = Due.on(first == second ? "top " + first + " 1;" : "top " + first + " 1;top " + second + " 40;");
                for (int hour = 0; hour < 6; hour++) {
                    int want = 40;
                    for (int h = 0; h <= hour; h++) {
                        want = h == first ? 1 : h == second ? 40 : want;
                    }
                    Due.is("top in " + hour, house.top(hour), want);
                }
            }
        }
    }

    /** "NONE if there is none such". */
    private static void noSuchHour() {
        SoarHouse house = Due.on("lift a 5 5 5 5 5 5; wind 0 n 1; top 0 3;");
        for (int far : FAR) {
            Due.is("lift of cell " + far, house.lift(far, 0), -1);
            Due.is("lift in hour " + far, house.lift(0, far), -1);
            Due.is("wind in hour " + far, house.wind(far), -1);
            Due.is("top in hour " + far, house.top(far), -1);
        }
        Due.is("lift of cell 63", house.lift(63, 5), 5);
        Due.is("lift of cell 64", house.lift(64, 5), -1);
        Due.is("lift in hour 6", house.lift(63, 6), -1);
        Due.is("wind in hour 5", house.wind(5), 4);
        Due.is("wind in hour 6", house.wind(6), -1);
        Due.is("top in hour 5", house.top(5), 3);
        Due.is("top in hour 6", house.top(6), -1);
    }

    /** "a CELL is shut at a moment m for heights above a wall's, if its STEPS have m"; the last of them not. */
    private static void shutAboveInItsSteps() {
        int[][] walls = {{0, 0, 0, 1}, {63, 39, 0, 36}, {7, 20, 35, 36}, {56, 1, 17, 19}};
        for (int[] w : walls) {
            SoarHouse house = Due.on("wall " + w[0] % 8 + " " + w[0] / 8 + " above " + w[1] + " from " + w[2] + " to " + w[3] + ";");
            for (int moment = 0; moment <= 36; moment++) {
                boolean has = moment >= w[2] && moment < w[3];
                Due.is("at its height", house.shut(w[0], moment, w[1]), 0);
                Due.is("above it", house.shut(w[0], moment, w[1] + 1), has ? 1 : 0);
                Due.is("at 0", house.shut(w[0], moment, 0), 0);
                Due.is("at 40", house.shut(w[0], moment, 40), has ? 1 : 0);
                Due.is("beside it", house.shut(w[0] == 0 ? 1 : w[0] - 1, moment, 40), 0);
                Due.is("far from it", house.shut(w[0] == 0 ? 8 : w[0] == 7 ? 15 : w[0] - 8, moment, 40), 0);
            }
        }
        SoarHouse high = Due.on("wall 0 0 above 40 from 0 to 36;");
        for (int height = 0; height <= 40; height++) {
            Due.is("nothing is above 40", high.shut(0, 18, height), 0);
        }
    }

    private static void severalWallsInACell() {
        for (String text : new String[] {"wall 1 1 above 9 from 2 to 6; wall 1 1 above 4 from 4 to 8;",
            "wall 1 1 above 4 from 4 to 8; wall 1 1 above 9 from 2 to 6;"}) {
            SoarHouse house = Due.on(text);
            for (int moment = 0; moment < 10; moment++) {
                boolean first = moment >= 2 && moment < 6;
                boolean second = moment >= 4 && moment < 8;
                Due.is("above the lower", house.shut(9, moment, 5), second ? 1 : 0);
                Due.is("at the higher", house.shut(9, moment, 9), second ? 1 : 0);
                Due.is("above both", house.shut(9, moment, 10), first || second ? 1 : 0);
                Due.is("at the lower", house.shut(9, moment, 4), 0);
            }
        }
        SoarHouse twelve = Due.on("wall 0 0 above 1 from 0 to 1;".repeat(11) + "wall 1 0 above 1 from 0 to 1;");
        Due.is("the twelfth", twelve.shut(1, 0, 2), 1);
    }

    /** "NONE if one is none": a CELL, a height (0 .. 40), a moment (0 .. 36). */
    private static void noSuchPlace() {
        SoarHouse house = Due.on("glider g sink 0 0 0 0 handicap 100;");
        for (int far : FAR) {
            Due.is("cell", house.shut(far, 0, 0), -1);
            Due.is("moment", house.shut(0, far, 0), -1);
            Due.is("height", house.shut(0, 0, far), -1);
            Due.is("glider", house.move(far, 0, 0, 0, 0), -1);
            Due.is("cell", house.move(0, far, 0, 0, 0), -1);
            Due.is("moment", house.move(0, 0, far, 0, 0), -1);
            Due.is("height", house.move(0, 0, 0, far, 0), -1);
            Due.is("move", house.move(0, 0, 0, 0, far), -1);
        }
        Due.is("the last of all", house.shut(63, 36, 40), 0);
        Due.is("cell 64", house.shut(64, 36, 40), -1);
        Due.is("moment 37", house.shut(63, 37, 40), -1);
        Due.is("height 41", house.shut(63, 36, 41), -1);
        Due.is("the last of all", house.move(0, 63, 35, 40, 0), at(40, 36, 63));
        Due.is("glider 1", house.move(1, 63, 35, 40, 0), -1);
        Due.is("cell 64", house.move(0, 64, 35, 40, 0), -1);
        Due.is("moment 36", house.move(0, 63, 36, 40, 0), -1);
        Due.is("moment 37", house.move(0, 63, 37, 40, 0), -1);
        Due.is("height 41", house.move(0, 63, 35, 41, 0), -1);
    }

    /** "if that is above the top, and above the height it had, it is the greater one of top and that height". */
    private static void circlingUpToTheTop() {
        SoarHouse house = Due.on("lift a 5 5 5 5 5 5; top 0 20; glider g sink 2 1 1 1 handicap 100;");
        Due.is("below the top", house.move(0, 0, 0, 16, 0), at(19, 1, 0));
        Due.is("just to the top", house.move(0, 0, 0, 17, 0), at(20, 1, 0));
        Due.is("not above it", house.move(0, 0, 0, 18, 0), at(20, 1, 0));
        Due.is("from the last below it", house.move(0, 0, 0, 19, 0), at(20, 1, 0));
        Due.is("from it", house.move(0, 0, 0, 20, 0), at(20, 1, 0));
        Due.is("from the first above it", house.move(0, 0, 0, 21, 0), at(21, 1, 0));
        Due.is("from 40", house.move(0, 0, 0, 40, 0), at(40, 1, 0));
        SoarHouse open = Due.on("lift a 20 20 20 20 20 20; glider g sink 0 1 1 1 handicap 100;");
        Due.is("just to 40", open.move(0, 0, 0, 20, 0), at(40, 1, 0));
        Due.is("not above 40", open.move(0, 0, 0, 21, 0), at(40, 1, 0));
        Due.is("from 40", open.move(0, 0, 35, 40, 0), at(40, 36, 0));
    }

    /** Above the top a glider that does not rise keeps what it has, or sinks. */
    private static void circlingAboveTheTop() {
        SoarHouse still = Due.on("lift a 2 2 2 2 2 2; top 0 5; glider g sink 2 1 1 1 handicap 100;");
        Due.is("still at the top", still.move(0, 0, 0, 5, 0), at(5, 1, 0));
        Due.is("still above it", still.move(0, 0, 0, 30, 0), at(30, 1, 0));
        SoarHouse sinking = Due.on("lift a 2 2 2 2 2 2; top 0 5; glider g sink 6 1 1 1 handicap 100;");
        Due.is("sinking above it", sinking.move(0, 0, 0, 30, 0), at(26, 1, 0));
        Due.is("sinking through it", sinking.move(0, 0, 0, 7, 0), at(3, 1, 0));
        Due.is("to the ground", sinking.move(0, 0, 0, 4, 0), at(0, 1, 0));
        Due.is("not below it", sinking.move(0, 0, 0, 3, 0), -1);
    }

    private static void circlingEverywhere() {
        for (int sink : new int[] {0, 1, 19, 20, 30}) {
            for (int lift : new int[] {0, 1, 20}) {
                for (int top : new int[] {1, 2, 39, 40}) {
                    SoarHouse house = Due.on("lift a" + (" " + lift).repeat(6) + "; top 0 " + top + "; glider g sink " + sink
                        + " 1 1 1 handicap 100;");
                    for (int height = 0; height <= 40; height++) {
                        int that = height + lift - sink;
                        if (that > top && that > height) {
                            that = Math.max(top, height);
                        }
                        Due.is("circling from " + height, house.move(0, 9, 4, height, 0), that < 0 ? -1 : at(that, 5, 9));
                    }
                }
            }
        }
    }

    private static void circlingIntoAWall() {
        SoarHouse house = Due.on("lift a 3 3 3 3 3 3; wall 0 0 above 10 from 5 to 7; glider g sink 0 1 1 1 handicap 100;");
        Due.is("ends ahead of it", house.move(0, 0, 3, 8, 0), at(11, 4, 0));
        Due.is("ends as it begins", house.move(0, 0, 4, 8, 0), -1);
        Due.is("beneath it", house.move(0, 0, 4, 7, 0), at(10, 5, 0));
        Due.is("ends in its last step", house.move(0, 0, 5, 8, 0), -1);
        Due.is("ends behind it", house.move(0, 0, 6, 8, 0), at(11, 7, 0));
    }

    /** "A MOVE can be, if it ends in a CELL": all moves of all CELLS. */
    private static void glidingOverTheEdge() {
        for (int speed = 0; speed < 3; speed++) {
            for (int d = 0; d < 8; d++) {
                SoarHouse house = Due.on("glider g sink 0 0 0 0 handicap 100;");
                for (int cell = 0; cell < 64; cell++) {
                    int x = cell % 8 + DX[d];
                    int y = cell / 8 + DY[d];
                    boolean in = x >= 0 && x < 8 && y >= 0 && y < 8;
                    Due.is("from " + cell + " by " + d, house.move(0, cell, 0, 0, 1 + 3 * d + speed),
                        in ? at(0, 3 - speed, 8 * y + x) : -1);
                }
            }
        }
    }

    /** "slow (s 0; 3 STEPS), middling (1; 2), fast (2; 1)", "at a moment 36 at most". */
    private static void glidingTakesSteps() {
        for (int d = 0; d < 8; d++) {
            SoarHouse house = Due.on("glider g sink 0 1 2 3 handicap 100;");
            for (int moment = 30; moment <= 36; moment++) {
                for (int speed = 0; speed < 3; speed++) {
                    int to = moment + 3 - speed;
                    int sink = speed + 1 + (d % 2 == 1 ? (speed + 1) / 2 : 0);
                    Due.is("at " + moment + " by " + d, house.move(0, 27, moment, 10, 1 + 3 * d + speed),
                        to > 36 ? -1 : at(10 - sink, to, 27 + DX[d] + 8 * DY[d]));
                }
            }
        }
    }

    /** "it loses sink (of s), and half of it (cut) too if d is odd". */
    private static void halfOfItCut() {
        for (int sink = 0; sink <= 30; sink++) {
            SoarHouse house = Due.on("glider g sink 0 " + sink + " " + sink + " " + sink + " handicap 100;");
            for (int speed = 0; speed < 3; speed++) {
                int odd = sink + sink / 2;
                Due.is("straight " + sink, house.move(0, 27, 0, 40, 1 + 6 + speed), at(40 - sink, 3 - speed, 28));
                Due.is("askew " + sink, house.move(0, 27, 0, 40, 1 + 9 + speed), odd > 40 ? -1 : at(40 - odd, 3 - speed, 36));
            }
        }
    }

    /** "less wind's strength times c, 0 at least". */
    private static void theWindHelpsAndHinders() {
        for (int strength = 0; strength <= 3; strength++) {
            for (int to = 0; to < 4; to++) {
                SoarHouse house = Due.on("wind 0 " + "nesw".charAt(to) + " " + strength + "; glider g sink 0 0 2 3 handicap 100;");
                for (int move = 1; move < 25; move++) {
                    int d = (move - 1) / 3;
                    int speed = (move - 1) % 3;
                    int c = DX[d] * DX[2 * to] + DY[d] * DY[2 * to];
                    int sink = new int[] {0, 2, 3}[speed];
                    int loses = Math.max(0, sink + (d % 2 == 1 ? sink / 2 : 0) - strength * c);
                    int ends = 27 + DX[d] + 8 * DY[d];
                    Due.is("move " + move, house.move(0, 27, 0, 20, move), at(20 - loses, 3 - speed, ends));
                    Due.is("just enough for " + move, house.move(0, 27, 0, loses, move), at(0, 3 - speed, ends));
                    Due.is("too little for " + move, house.move(0, 27, 0, loses - 1, move), -1);
                    Due.is("none wins by the wind", house.move(0, 27, 0, 40, move), at(40 - loses, 3 - speed, ends));
                }
            }
        }
    }

    /** "MOVES, in the HOUR of the STEP in which they begin", "six to an HOUR". */
    private static void theHourInWhichItBegins() {
        SoarHouse house = Due.on("lift a 1 2 3 4 5 6; top 0 30; top 3 21; wind 0 e 1; wind 1 e 2; wind 4 w 1;"
            + "glider g sink 0 4 4 4 handicap 100;");
        int[] lifts = {1, 2, 3, 1, 1, 1};
        int[] losses = {3, 2, 2, 2, 5, 5};
        for (int moment = 0; moment < 36; moment++) {
            int hour = moment / 6;
            Due.is("circling at " + moment, house.move(0, 0, moment, 20, 0), at(20 + lifts[hour], moment + 1, 0));
            for (int speed = 0; speed < 3; speed++) {
                int to = moment + 3 - speed;
                Due.is("east at " + moment, house.move(0, 0, moment, 20, 7 + speed), to > 36 ? -1 : at(20 - losses[hour], to, 1));
            }
        }
    }

    /** "at a height of 0 at least". */
    private static void downToTheGround() {
        SoarHouse house = Due.on("glider g sink 5 6 7 8 handicap 100;");
        for (int height = 0; height <= 12; height++) {
            Due.is("circling", house.move(0, 0, 0, height, 0), height < 5 ? -1 : at(height - 5, 1, 0));
            Due.is("slow", house.move(0, 0, 0, height, 7), height < 6 ? -1 : at(height - 6, 3, 1));
            Due.is("middling", house.move(0, 0, 0, height, 8), height < 7 ? -1 : at(height - 7, 2, 1));
            Due.is("fast", house.move(0, 0, 0, height, 9), height < 8 ? -1 : at(height - 8, 1, 1));
            Due.is("fast, askew", house.move(0, 0, 0, height, 12), height < 12 ? -1 : at(height - 12, 1, 9));
        }
    }

    /** "and not where it is shut": by the CELL, moment and height with which it ends. */
    private static void whereItEndsIsShut() {
        SoarHouse house = Due.on("wall 1 0 above 10 from 10 to 12; glider g sink 0 1 1 1 handicap 100;");
        for (int moment = 5; moment <= 13; moment++) {
            for (int speed = 0; speed < 3; speed++) {
                int to = moment + 3 - speed;
                boolean shut = to == 10 || to == 11;
                Due.is("above it", house.move(0, 0, moment, 12, 7 + speed), shut ? -1 : at(11, to, 1));
                Due.is("beneath it", house.move(0, 0, moment, 11, 7 + speed), at(10, to, 1));
                Due.is("beside it", house.move(0, 0, moment, 40, 13 + speed), at(39, to, 8));
            }
        }
        SoarHouse late = Due.on("wall 1 0 above 0 from 0 to 36; glider g sink 0 1 1 1 handicap 100;");
        Due.is("at moment 35", late.move(0, 0, 34, 12, 9), -1);
        Due.is("no STEP is at moment 36", late.move(0, 0, 35, 12, 9), at(11, 36, 1));
    }

    /** "(where it begins may be shut)". */
    private static void whereItBeginsMayBeShut() {
        SoarHouse house = Due.on("wall 0 0 above 0 from 0 to 9; glider g sink 0 1 1 1 handicap 100;");
        Due.is("it is shut", house.shut(0, 5, 40), 1);
        Due.is("out of it", house.move(0, 0, 5, 40, 9), at(39, 6, 1));
        Due.is("not on in it", house.move(0, 0, 5, 40, 0), -1);
        Due.is("on in it as it ends", house.move(0, 0, 8, 40, 0), at(40, 9, 0));
    }

    /** "Where a MOVE (0 .. 24) of a glider leads". */
    private static void noSuchMove() {
        SoarHouse house = Due.on("glider a sink 0 0 0 0 handicap 100; glider b sink 1 1 1 1 handicap 100;"
            + "glider c sink 2 2 2 2 handicap 100; glider d sink 3 3 3 3 handicap 100;");
        for (int glider = 0; glider < 4; glider++) {
            Due.is("glider " + glider, house.move(glider, 27, 0, 10, 0), at(10 - glider, 1, 27));
            Due.is("its last move", house.move(glider, 27, 0, 10, 24), at(10 - glider - glider / 2, 1, 18));
            Due.is("none behind it", house.move(glider, 27, 0, 10, 25), -1);
        }
        Due.is("a fifth glider", house.move(4, 27, 0, 10, 0), -1);
    }
}
