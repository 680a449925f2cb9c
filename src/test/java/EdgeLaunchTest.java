/** Promises 16 to 18, sentence by sentence: the winch, the tow planes and who is launched, at their edges. */
public final class EdgeLaunchTest {
    private static final int[] FAR = {Integer.MIN_VALUE, -2, -1, Integer.MAX_VALUE};

    public static void main(String[] args) {
        atFirst();
        whatAFieldCanBe();
        aFieldThatCannotBeDoesNothing();
        launchesAreNoneThen();
        stepsOfALaunch();
        thirtyAtMost();
        oneBehindTheOther();
        sortBySort();
        theWinchTakesItsSteps();
        thePlaneThatIsFreeFirst();
        fewerPlanesThanBefore();
        at35AtMost();
        noSuchLaunch();
        Due.close();
    }

    private static void told(SoarHouse house, int launch, int begin, int free, int plane) {
        Due.is("begin of " + launch, house.launched(launch, 0), begin);
        Due.is("free of " + launch, house.launched(launch, 1), free);
        Due.is("plane of " + launch, house.launched(launch, 2), plane);
    }

    private static void never(SoarHouse house, int launch) {
        told(house, launch, -1, -1, -1);
    }

    /** "WINCH (1 .. 9; 1 at first)", "tow planes (1 .. 4; 1 at first)", "TOW (1 .. 9; 2 at first)". */
    private static void atFirst() {
        SoarHouse house = new SoarHouse();
        for (int i = 0; i < 3; i++) {
            house.launch(false, 0);
            house.launch(true, 0);
        }
        for (int i = 0; i < 3; i++) {
            told(house, 2 * i, i, i + 1, 0);
            told(house, 2 * i + 1, 2 * i, 2 * i + 2, 0);
        }
    }

    /** "WINCH, tow planes, TOW .. : true; false .. if one can't be". */
    private static void whatAFieldCanBe() {
        int[] values = {Integer.MIN_VALUE, -1, 0, 1, 2, 3, 4, 5, 8, 9, 10, Integer.MAX_VALUE};
        for (int winch : values) {
            for (int planes : values) {
                for (int tow : values) {
                    boolean can = winch >= 1 && winch <= 9 && planes >= 1 && planes <= 4 && tow >= 1 && tow <= 9;
                    SoarHouse house = new SoarHouse();
                    Due.is("field " + winch + " " + planes + " " + tow, house.field(winch, planes, tow), can);
                    house.launch(false, 0);
                    house.launch(true, 0);
                    Due.is("the winch takes", house.launched(0, 1), can ? winch : 1);
                    Due.is("a tow takes", house.launched(1, 1), can ? tow : 2);
                }
            }
        }
    }

    /** "false, doing nothing". */
    private static void aFieldThatCannotBeDoesNothing() {
        int[][] wrong = {{0, 2, 5}, {10, 2, 5}, {3, 0, 5}, {3, 5, 5}, {3, 2, 0}, {3, 2, 10}, {-3, -2, -5}};
        for (int[] w : wrong) {
            SoarHouse house = new SoarHouse();
            house.field(3, 2, 4);
            house.launch(false, 1);
            house.launch(true, 1);
            Due.is("field", house.field(w[0], w[1], w[2]), false);
            Due.is("launches stay", house.about(7), 2);
            told(house, 0, 1, 4, 0);
            told(house, 1, 1, 5, 0);
            Due.is("the next number", house.launch(false, 0), 2);
            told(house, 2, 4, 7, 0);
            house.launch(true, 0);
            told(house, 3, 0, 4, 1);
            house.launch(true, 0);
            told(house, 4, 4, 8, 1);
        }
    }

    /** "(LAUNCHES are none then)". */
    private static void launchesAreNoneThen() {
        SoarHouse house = new SoarHouse();
        house.field(9, 2, 9);
        for (int i = 0; i < 6; i++) {
            house.launch(i % 2 == 0, 3);
        }
        Due.is("the same again", house.field(9, 2, 9), true);
        Due.is("none", house.about(7), 0);
        never(house, 0);
        Due.is("a first one", house.launch(true, 0), 0);
        told(house, 0, 0, 9, 0);
        Due.is("a second one", house.launch(false, 0), 1);
        told(house, 1, 0, 9, 0);
        Due.is("a third one", house.launch(true, 0), 2);
        told(house, 2, 0, 9, 1);
    }

    /** "if it can't be (a STEP 0 .. 35)". */
    private static void stepsOfALaunch() {
        for (boolean tow : new boolean[] {false, true}) {
            SoarHouse house = new SoarHouse();
            for (int step : new int[] {Integer.MIN_VALUE, -1, 36, 37, Integer.MAX_VALUE}) {
                Due.is("step " + step, house.launch(tow, step), -1);
                Due.is("it is none", house.about(7), 0);
            }
            Due.is("step 0", house.launch(tow, 0), 0);
            Due.is("step 35", house.launch(tow, 35), 1);
            told(house, 0, 0, tow ? 2 : 1, 0);
            told(house, 1, 35, tow ? 37 : 36, 0);
        }
    }

    /** "LAUNCHES, 30 at most"; "NONE, doing nothing, if .. there are 30". */
    private static void thirtyAtMost() {
        SoarHouse house = new SoarHouse();
        for (int i = 0; i < 30; i++) {
            Due.is("launch " + i, house.launch(i % 2 == 0, i), i);
            Due.is("launches", house.about(7), i + 1);
        }
        for (int i = 0; i < 3; i++) {
            Due.is("a 31st", house.launch(i % 2 == 0, 35), -1);
            Due.is("thirty", house.about(7), 30);
            never(house, 30);
        }
        told(house, 29, 29, 30, 0);
        told(house, 28, 28, 30, 0);
        house.field(1, 1, 2);
        Due.is("again", house.launch(true, 0), 0);
    }

    /** "in the order in which they were asked for": who asks later does not begin in a gap ahead. */
    private static void oneBehindTheOther() {
        for (boolean tow : new boolean[] {false, true}) {
            SoarHouse house = new SoarHouse();
            house.field(3, 1, 3);
            house.launch(tow, 20);
            house.launch(tow, 0);
            house.launch(tow, 26);
            house.launch(tow, 30);
            house.launch(tow, 29);
            told(house, 0, 20, 23, 0);
            told(house, 1, 23, 26, 0);
            told(house, 2, 26, 29, 0);
            told(house, 3, 30, 33, 0);
            told(house, 4, 33, 36, 0);
        }
    }

    /** "(sort by sort)": the winch does not wait for planes, nor they for it. */
    private static void sortBySort() {
        SoarHouse house = new SoarHouse();
        house.field(9, 1, 8);
        house.launch(false, 5);
        house.launch(true, 5);
        house.launch(true, 5);
        house.launch(false, 5);
        told(house, 0, 5, 14, 0);
        told(house, 1, 5, 13, 0);
        told(house, 2, 13, 21, 0);
        told(house, 3, 14, 23, 0);
    }

    private static void theWinchTakesItsSteps() {
        for (int winch = 1; winch <= 9; winch++) {
            SoarHouse house = new SoarHouse();
            house.field(winch, 4, 9);
            for (int i = 0; i < 10; i++) {
                house.launch(false, 0);
                if (i * winch <= 35) {
                    told(house, i, i * winch, (i + 1) * winch, 0);
                } else {
                    never(house, i);
                }
            }
        }
    }

    /** "a tow is by the plane that is free first (of like ones the least number)". */
    private static void thePlaneThatIsFreeFirst() {
        for (int planes = 1; planes <= 4; planes++) {
            SoarHouse house = new SoarHouse();
            house.field(1, planes, 3);
            for (int i = 0; i < 9; i++) {
                house.launch(true, 0);
                told(house, i, i / planes * 3, i / planes * 3 + 3, i % planes);
            }
        }
        SoarHouse house = new SoarHouse();
        house.field(1, 3, 4);
        house.launch(true, 2);
        house.launch(true, 1);
        house.launch(true, 0);
        told(house, 0, 2, 6, 0);
        told(house, 1, 1, 5, 1);
        told(house, 2, 0, 4, 2);
        house.launch(true, 20);
        told(house, 3, 20, 24, 2);
        house.launch(true, 20);
        told(house, 4, 20, 24, 1);
        house.launch(true, 20);
        told(house, 5, 20, 24, 0);
        house.launch(true, 24);
        told(house, 6, 24, 28, 0);
    }

    private static void fewerPlanesThanBefore() {
        SoarHouse house = new SoarHouse();
        house.field(1, 4, 9);
        for (int i = 0; i < 4; i++) {
            house.launch(true, 0);
        }
        house.field(1, 2, 9);
        house.launch(true, 0);
        house.launch(true, 0);
        house.launch(true, 0);
        told(house, 0, 0, 9, 0);
        told(house, 1, 0, 9, 1);
        told(house, 2, 9, 18, 0);
    }

    /** "It begins at 35 at most, else never (and takes nothing)." "The glider is free at the end of it." */
    private static void at35AtMost() {
        SoarHouse house = new SoarHouse();
        house.field(5, 2, 9);
        house.launch(false, 30);
        house.launch(false, 30);
        house.launch(false, 0);
        told(house, 0, 30, 35, 0);
        told(house, 1, 35, 40, 0);
        never(house, 2);
        house.launch(true, 27);
        house.launch(true, 26);
        told(house, 3, 27, 36, 0);
        told(house, 4, 26, 35, 1);
        house.launch(true, 0);
        told(house, 5, 35, 44, 1);
        house.launch(true, 0);
        never(house, 6);
        house.launch(true, 35);
        never(house, 7);
        Due.is("they have numbers", house.about(7), 8);
        SoarHouse even = new SoarHouse();
        even.field(6, 1, 6);
        for (int i = 0; i < 7; i++) {
            even.launch(false, 0);
        }
        told(even, 5, 30, 36, 0);
        never(even, 6);
    }

    /** "NONE if there is none such". */
    private static void noSuchLaunch() {
        SoarHouse house = new SoarHouse();
        never(house, 0);
        house.launch(true, 0);
        house.launch(false, 0);
        for (int far : FAR) {
            never(house, far);
            Due.is("what " + far, house.launched(1, far), -1);
        }
        told(house, 1, 0, 1, 0);
        never(house, 2);
        Due.is("what 3", house.launched(0, 3), -1);
        Due.is("what 3", house.launched(1, 3), -1);
    }
}
