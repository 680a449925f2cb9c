/** Promises 28 to 32, sentence by sentence: who lies out, roads and trailers at their edges. */
public final class EdgeTrailerTest {
    private static final int[] FAR = {Integer.MIN_VALUE, -2, -1, Integer.MAX_VALUE};

    public static void main(String[] args) {
        nineAtMost();
        noSuchCell();
        fetched();
        theLeastByRoads();
        eitherWay();
        aLongRoad();
        aHomeInItsOwnCell();
        noneLiesOut();
        whatCanBeTold();
        oneCannotBeComeTo();
        thereAndBack();
        theFirstByNumbers();
        nineForThree();
        theKthGlider();
        whatLaysOutChangesHome();
        Due.close();
    }

    /** "OUT are gliders, 9 at most"; "NONE, doing nothing, if .. there are 9". */
    private static void nineAtMost() {
        SoarHouse house = Due.on("road 0 0 1 0 3;");
        for (int i = 1; i <= 9; i++) {
            Due.is("out " + i, house.out(i % 2), i);
            Due.is("about", house.about(8), i);
        }
        int before = house.home(0, 1);
        Due.is("home", before, 5 * 6);
        for (int i = 0; i < 3; i++) {
            Due.is("a tenth", house.out(1), -1);
            Due.is("nine", house.about(8), 9);
            Due.is("home stays", house.home(0, 1), before);
            Due.is("no tenth trailer", house.trailer(0, 1, 9), -1);
        }
        Due.is("nine were", house.fetched(), 9);
    }

    /** "NONE, doing nothing, if there is no such CELL". */
    private static void noSuchCell() {
        SoarHouse house = new SoarHouse();
        for (int far : FAR) {
            Due.is("out in " + far, house.out(far), -1);
            Due.is("minutes from " + far, house.minutes(far, 0), -1);
            Due.is("minutes to " + far, house.minutes(0, far), -1);
            Due.is("minutes in " + far, house.minutes(far, far), -1);
        }
        Due.is("out in 64", house.out(64), -1);
        Due.is("none is", house.about(8), 0);
        Due.is("out in 63", house.out(63), 1);
        Due.is("out in 0", house.out(0), 2);
        Due.is("out in 64", house.out(64), -1);
        Due.is("two are", house.fetched(), 2);
        Due.is("minutes in 63", house.minutes(63, 63), 0);
        Due.is("minutes in 64", house.minutes(64, 64), -1);
        Due.is("minutes to 64", house.minutes(63, 64), -1);
        Due.is("minutes from 64", house.minutes(64, 63), -1);
    }

    /** "None lies OUT any more: how many did." */
    private static void fetched() {
        SoarHouse house = new SoarHouse();
        Due.is("none did", house.fetched(), 0);
        for (int count = 1; count <= 9; count += 4) {
            for (int i = 0; i < count; i++) {
                house.out(i);
            }
            Due.is("did", house.fetched(), count);
            Due.is("none does", house.about(8), 0);
            Due.is("none did again", house.fetched(), 0);
            Due.is("home", house.home(63, 3), 0);
        }
        Due.is("the first again", house.out(5), 1);
    }

    /** "minutes between two CELLS, the least by roads"; "NONE if there is no way". */
    private static void theLeastByRoads() {
        SoarHouse house = Due.on("road 0 0 1 0 99; road 0 0 1 0 40; road 0 0 1 0 41; road 0 0 2 0 20; road 2 0 1 0 20;"
            + "road 1 0 3 0 1; road 7 7 6 7 1;");
        Due.is("the least of three, as short as round", house.minutes(0, 1), 40);
        Due.is("two", house.minutes(0, 3), 41);
        Due.is("by another", house.minutes(2, 3), 21);
        Due.is("no way", house.minutes(0, 63), -1);
        Due.is("no way back", house.minutes(63, 0), -1);
        Due.is("no road at all", house.minutes(0, 4), -1);
        Due.is("to itself", house.minutes(4, 4), 0);
        Due.is("to itself, with roads", house.minutes(0, 0), 0);
        for (String text : new String[] {"road 0 0 1 0 5; road 0 0 1 0 9;", "road 0 0 1 0 9; road 0 0 1 0 5;",
            "road 1 0 0 0 5; road 0 0 1 0 9;", "road 1 0 0 0 9; road 0 0 1 0 5;"}) {
            SoarHouse two = Due.on(text);
            Due.is("the shorter one", two.minutes(0, 1), 5);
            Due.is("the shorter one back", two.minutes(1, 0), 5);
        }
        SoarHouse round = Due.on("road 0 0 1 0 40; road 0 0 2 0 20; road 2 0 1 0 19;");
        Due.is("shorter round", round.minutes(0, 1), 39);
        Due.is("shorter round, back", round.minutes(1, 0), 39);
    }

    /** "road: between two different CELLS, minutes 1 .. 99, either way". */
    private static void eitherWay() {
        for (String text : new String[] {"road 0 0 7 7 99;", "road 7 7 0 0 99;"}) {
            SoarHouse house = Due.on(text);
            Due.is("there", house.minutes(0, 63), 99);
            Due.is("back", house.minutes(63, 0), 99);
        }
        SoarHouse house = Due.on("road 3 5 4 5 1;");
        Due.is("x first, then y", house.minutes(43, 44), 1);
        Due.is("not y first", house.minutes(29, 37), -1);
    }

    private static void aLongRoad() {
        StringBuilder up = new StringBuilder();
        StringBuilder down = new StringBuilder();
        for (int i = 0; i < 20; i++) {
            String road = "road " + i % 8 + " " + i / 8 + " " + (i + 1) % 8 + " " + (i + 1) / 8 + " 99;";
            up.append(road);
            down.insert(0, road);
        }
        for (String text : new String[] {up.toString(), down.toString()}) {
            SoarHouse house = Due.on(text);
            for (int i = 0; i <= 20; i++) {
                Due.is("from 0 to " + i, house.minutes(0, i), 99 * i);
                Due.is("from 20 to " + i, house.minutes(20, i), 99 * (20 - i));
            }
            Due.is("beyond", house.minutes(0, 21), -1);
            for (int i = 0; i < 9; i++) {
                house.out(20);
            }
            Due.is("the longest of all", house.home(0, 1), 9 * 2 * 1980);
        }
    }

    private static void aHomeInItsOwnCell() {
        SoarHouse house = new SoarHouse();
        house.out(40);
        house.out(40);
        for (int trailers = 1; trailers <= 3; trailers++) {
            Due.is("where they lie", house.home(40, trailers), 0);
            Due.is("the first trailer", house.trailer(40, trailers, 0), 0);
            Due.is("the first trailer", house.trailer(40, trailers, 1), 0);
            Due.is("elsewhere", house.home(41, trailers), -1);
            Due.is("elsewhere", house.trailer(41, trailers, 0), -1);
        }
    }

    /** "(0 if none lies OUT)". */
    private static void noneLiesOut() {
        SoarHouse house = new SoarHouse();
        for (int cell = 0; cell < 64; cell += 9) {
            for (int trailers = 1; trailers <= 3; trailers++) {
                Due.is("home", house.home(cell, trailers), 0);
                Due.is("no trailer", house.trailer(cell, trailers, 0), -1);
            }
        }
    }

    /** "NONE if one can't be .. told": a home CELL, trailers (1 .. 3). */
    private static void whatCanBeTold() {
        for (int count = 0; count < 2; count++) {
            SoarHouse house = new SoarHouse();
            for (int i = 0; i < count; i++) {
                house.out(63);
            }
            for (int far : new int[] {Integer.MIN_VALUE, -1, 0, 4, 5, Integer.MAX_VALUE}) {
                Due.is("trailers " + far, house.home(63, far), -1);
                Due.is("trailers " + far, house.trailer(63, far, 0), -1);
            }
            for (int far : new int[] {Integer.MIN_VALUE, -1, 64, 65, Integer.MAX_VALUE}) {
                Due.is("cell " + far, house.home(far, 1), -1);
                Due.is("cell " + far, house.trailer(far, 1, 0), -1);
            }
            Due.is("one trailer", house.home(63, 1), 0);
            Due.is("three trailers", house.home(63, 3), 0);
        }
    }

    /** "NONE if one can't be come to": whichever it is. */
    private static void oneCannotBeComeTo() {
        for (int lost = 0; lost < 3; lost++) {
            SoarHouse house = Due.on("road 0 0 1 0 5;");
            for (int i = 0; i < 3; i++) {
                house.out(i == lost ? 9 : 1);
            }
            for (int trailers = 1; trailers <= 3; trailers++) {
                Due.is("home", house.home(0, trailers), -1);
                for (int k = 0; k < 3; k++) {
                    Due.is("trailer", house.trailer(0, trailers, k), -1);
                }
            }
            house.fetched();
            house.out(1);
            Due.is("home then", house.home(0, 1), 10);
        }
    }

    /** "each to one glider at a time and back". */
    private static void thereAndBack() {
        SoarHouse house = Due.on("road 0 0 1 0 5; road 1 0 2 0 7;");
        house.out(2);
        Due.is("one", house.home(0, 1), 24);
        house.out(1);
        Due.is("not both on one way", house.home(0, 1), 34);
        Due.is("by two", house.home(0, 2), 24);
        Due.is("by three", house.home(0, 3), 24);
        Due.is("from between", house.home(1, 2), 14);
    }

    private static void shares(SoarHouse house, int trailers, int home, int... by) {
        Due.is("home by " + trailers, house.home(0, trailers), home);
        for (int k = 0; k < by.length; k++) {
            Due.is("glider " + k + " by " + trailers, house.trailer(0, trailers, k), by[k]);
        }
        Due.is("none behind", house.trailer(0, trailers, by.length), -1);
    }

    /** "of like ways the first by trailers' numbers, glider by glider". */
    private static void theFirstByNumbers() {
        SoarHouse house = Due.on("road 0 0 1 0 1; road 0 0 2 0 2; road 0 0 3 0 3; road 0 0 4 0 4;");
        house.out(4);
        house.out(1);
        house.out(1);
        house.out(2);
        shares(house, 1, 16, 0, 0, 0, 0);
        shares(house, 2, 8, 0, 1, 1, 1);
        shares(house, 3, 8, 0, 1, 1, 1);
        house.fetched();
        house.out(1);
        house.out(1);
        house.out(2);
        house.out(4);
        shares(house, 2, 8, 0, 0, 0, 1);
        shares(house, 3, 8, 0, 0, 0, 1);
        house.fetched();
        house.out(1);
        house.out(2);
        house.out(3);
        shares(house, 2, 6, 0, 0, 1);
        shares(house, 3, 6, 0, 0, 1);
        house.out(3);
        shares(house, 3, 6, 0, 0, 1, 2);
        house.out(0);
        shares(house, 3, 6, 0, 0, 1, 2, 0);
        house.fetched();
        house.out(0);
        house.out(3);
        house.out(3);
        house.out(0);
        shares(house, 2, 6, 0, 0, 1, 0);
    }

    private static void nineForThree() {
        SoarHouse house = Due.on("road 0 0 1 0 1; road 0 0 2 0 2; road 0 0 3 0 3;");
        for (int i = 0; i < 9; i++) {
            house.out(1 + i % 3);
        }
        shares(house, 1, 36, 0, 0, 0, 0, 0, 0, 0, 0, 0);
        shares(house, 3, 12, 0, 0, 0, 1, 1, 1, 2, 2, 2);
        shares(house, 2, 18, 0, 0, 0, 0, 0, 1, 1, 1, 1);
    }

    /** "The trailer that fetches the k-th glider then; NONE if there is none such". */
    private static void theKthGlider() {
        SoarHouse house = Due.on("road 0 0 1 0 1;");
        house.out(1);
        house.out(1);
        for (int far : FAR) {
            Due.is("glider " + far, house.trailer(0, 2, far), -1);
        }
        Due.is("glider 0", house.trailer(0, 2, 0), 0);
        Due.is("glider 1", house.trailer(0, 2, 1), 1);
        Due.is("glider 2", house.trailer(0, 2, 2), -1);
        Due.is("without home", house.trailer(1, 3, 1), 0);
    }

    private static void whatLaysOutChangesHome() {
        SoarHouse house = Due.on("road 0 0 1 0 1; road 0 0 2 0 9;");
        house.out(1);
        Due.is("one", house.home(0, 1), 2);
        house.out(2);
        Due.is("two", house.home(0, 1), 20);
        Due.map(house, "road 0 0 1 0 1;");
        Due.is("none of the old ones", house.home(0, 1), 0);
        Due.is("no old road", house.minutes(0, 2), -1);
        house.out(1);
        Due.is("one of the new", house.home(0, 3), 2);
    }
}
