/** Promises 7 to 11: lift, wind, top, shut, and single moves. */
public final class AirTest {
    private static final String MAP = "row 1 abcdefgh; lift b 1 2 3 4 5 20; lift h 9 9 9 9 9 9; lift a 0 0 0 0 0 6;"
        + "wind 4 w 3; wind 1 s 2; top 2 7; top 5 30;"
        + "wall 2 3 above 5 from 3 to 9; wall 2 3 above 2 from 8 to 12; wall 2 4 above 0 from 35 to 36;"
        + "glider a sink 1 2 3 5 handicap 90; glider b sink 9 30 30 30 handicap 100;";

    public static void main(String[] args) {
        lifts();
        windsAndTops();
        walls();
        circling();
        gliding();
        allWinds();
        whatIsNone();
        Due.close();
    }

    private static int at(int height, int moment, int cell) {
        return 6400 * height + 100 * moment + cell;
    }

    private static void lifts() {
        SoarHouse house = Due.on(MAP);
        for (int hour = 0; hour < 6; hour++) {
            Due.is("lift b", house.lift(9, hour), hour == 5 ? 20 : hour + 1);
            Due.is("lift h", house.lift(15, hour), 9);
            Due.is("lift c, not told", house.lift(10, hour), 0);
            Due.is("lift of a row not told", house.lift(63, hour), hour == 5 ? 6 : 0);
        }
        Due.is("hour 6", house.lift(9, 6), -1);
        Due.is("hour -1", house.lift(9, -1), -1);
        Due.is("cell 64", house.lift(64, 0), -1);
        Due.is("cell -1", house.lift(-1, 0), -1);
    }

    private static void windsAndTops() {
        SoarHouse house = Due.on(MAP);
        int[] winds = {0, 10, 10, 10, 15, 15};
        int[] tops = {40, 40, 7, 7, 7, 30};
        for (int hour = 0; hour < 6; hour++) {
            Due.is("wind " + hour, house.wind(hour), winds[hour]);
            Due.is("top " + hour, house.top(hour), tops[hour]);
        }
        Due.is("wind 6", house.wind(6), -1);
        Due.is("wind -1", house.wind(-1), -1);
        Due.is("top 6", house.top(6), -1);
        Due.is("top -1", house.top(-1), -1);
    }

    private static void walls() {
        SoarHouse house = Due.on(MAP);
        Due.is("ahead of it", house.shut(26, 2, 40), 0);
        Due.is("as it begins", house.shut(26, 3, 6), 1);
        Due.is("at its height", house.shut(26, 3, 5), 0);
        Due.is("two walls", house.shut(26, 8, 3), 1);
        Due.is("below both", house.shut(26, 8, 2), 0);
        Due.is("the second alone", house.shut(26, 11, 3), 1);
        Due.is("behind both", house.shut(26, 12, 40), 0);
        Due.is("another cell", house.shut(25, 8, 40), 0);
        Due.is("the last step", house.shut(34, 35, 1), 1);
        Due.is("the last moment", house.shut(34, 36, 40), 0);
        Due.is("moment 37", house.shut(34, 37, 0), -1);
        Due.is("moment -1", house.shut(34, -1, 0), -1);
        Due.is("height 41", house.shut(34, 0, 41), -1);
        Due.is("height -1", house.shut(34, 0, -1), -1);
        Due.is("cell 64", house.shut(64, 0, 0), -1);
    }

    private static void circling() {
        SoarHouse house = Due.on(MAP);
        Due.is("rising", house.move(0, 15, 0, 3, 0), at(11, 1, 15));
        Due.is("sinking", house.move(0, 0, 0, 3, 0), at(2, 1, 0));
        Due.is("to the ground", house.move(0, 0, 0, 1, 0), at(0, 1, 0));
        Due.is("below the ground", house.move(0, 0, 0, 0, 0), -1);
        Due.is("the top in 40", house.move(0, 15, 0, 39, 0), at(40, 1, 15));
        Due.is("up to the top", house.move(0, 15, 12, 0, 0), at(7, 13, 15));
        Due.is("at the top", house.move(0, 15, 12, 7, 0), at(7, 13, 15));
        Due.is("above the top already", house.move(0, 15, 12, 22, 0), at(22, 13, 15));
        Due.is("sinking above the top", house.move(0, 0, 12, 22, 0), at(21, 13, 0));
        Due.is("neither", house.move(1, 15, 0, 5, 0), at(5, 1, 15));
        Due.is("the hour in which it begins", house.move(0, 15, 11, 20, 0), at(28, 12, 15));
        Due.is("into a wall's steps", house.move(0, 26, 2, 7, 0), -1);
        Due.is("beneath it", house.move(0, 26, 2, 6, 0), at(5, 3, 26));
        Due.is("in the last step", house.move(0, 15, 35, 0, 0), at(8, 36, 15));
        Due.is("at the last moment", house.move(0, 15, 36, 0, 0), -1);
    }

    private static void gliding() {
        SoarHouse house = Due.on(MAP);
        int[] to = {19, 20, 28, 36, 35, 34, 26, 18};
        for (int d = 0; d < 8; d++) {
            for (int s = 0; s < 3; s++) {
                int[] sinks = {2, 3, 5};
                int loss = d % 2 == 0 ? sinks[s] : sinks[s] + sinks[s] / 2;
                Due.is("calm " + d + " " + s, house.move(0, 27, 0, loss, 1 + 3 * d + s), at(0, 3 - s, to[d]));
                Due.is("calm, too low " + d, house.move(0, 27, 0, loss - 1, 1 + 3 * d + s), -1);
            }
        }
        Due.is("against a wind to the south", house.move(0, 27, 6, 20, 1), at(16, 9, 19));
        Due.is("with it", house.move(0, 27, 6, 20, 15), at(17, 7, 35));
        Due.is("with it, 0 at least", house.move(0, 27, 6, 20, 13), at(20, 9, 35));
        Due.is("with it by south-east", house.move(0, 27, 6, 20, 12), at(15, 7, 36));
        Due.is("across it", house.move(0, 27, 6, 20, 9), at(15, 7, 28));
        Due.is("against it by north-west", house.move(0, 27, 6, 20, 24), at(11, 7, 18));
        Due.is("with a wind to the west", house.move(0, 27, 24, 20, 19), at(20, 27, 26));
        Due.is("against it by north-east", house.move(0, 27, 24, 20, 6), at(10, 25, 20));
        Due.is("0 at least", house.move(0, 27, 24, 0, 20), at(0, 26, 26));
        Due.is("over the north edge", house.move(0, 3, 0, 20, 1), -1);
        Due.is("over the east edge", house.move(0, 31, 0, 20, 7), -1);
        Due.is("over the south edge", house.move(0, 60, 0, 20, 13), -1);
        Due.is("over the west edge", house.move(0, 24, 0, 20, 21), -1);
        Due.is("into a wall", house.move(0, 27, 3, 11, 21), -1);
        Due.is("beneath a wall", house.move(0, 27, 3, 10, 21), at(5, 4, 26));
        Due.is("out of a wall", house.move(0, 26, 3, 40, 9), at(35, 4, 27));
        Due.is("beyond the day, slow", house.move(0, 27, 34, 20, 1), -1);
        Due.is("up to its end, middling", house.move(0, 27, 34, 20, 8), at(20 - 6, 36, 28));
    }

    private static void allWinds() {
        String[] names = {"n", "e", "s", "w"};
        int[] dx = {0, 1, 1, 1, 0, -1, -1, -1};
        int[] dy = {-1, -1, 0, 1, 1, 1, 0, -1};
        for (int to = 0; to < 4; to++) {
            for (int strength = 0; strength < 4; strength++) {
                SoarHouse house = Due.on("wind 0 " + names[to] + " " + strength + "; glider a sink 1 2 3 5 handicap 90;");
                Due.is("wind " + names[to], house.wind(5), 4 * strength + to);
                for (int d = 0; d < 8; d++) {
                    int along = dx[d] * dx[2 * to] + dy[d] * dy[2 * to];
                    int loss = Math.max(0, (d % 2 == 0 ? 5 : 7) - strength * along);
                    Due.is("fast by " + d + " in " + names[to] + strength, house.move(0, 27, 0, 20, 3 + 3 * d),
                        at(20 - loss, 1, 27 + dx[d] + 8 * dy[d]));
                }
            }
        }
    }

    private static void whatIsNone() {
        SoarHouse house = Due.on(MAP);
        Due.is("glider 2", house.move(2, 0, 0, 10, 0), -1);
        Due.is("glider -1", house.move(-1, 0, 0, 10, 0), -1);
        Due.is("cell 64", house.move(0, 64, 0, 10, 0), -1);
        Due.is("moment 37", house.move(0, 0, 37, 10, 0), -1);
        Due.is("moment -1", house.move(0, 0, -1, 10, 0), -1);
        Due.is("height 41", house.move(0, 0, 0, 41, 0), -1);
        Due.is("height -1", house.move(0, 0, 0, -1, 0), -1);
        Due.is("move 25", house.move(0, 9, 0, 10, 25), -1);
        Due.is("move -1", house.move(0, 9, 0, 10, -1), -1);
        Due.is("move 24", house.move(0, 9, 0, 10, 24), at(3, 1, 0));
    }
}
