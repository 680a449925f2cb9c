/** Promises 1 to 6 and 33: a new object, the tape, maps and laws taken or refused, what is about. */
public final class TapeTest {
    public static void main(String[] args) {
        aNewObject();
        theTape();
        mapsAndWhatStays();
        lawsAndWhatStays();
        about();
        Due.close();
    }

    private static void aNewObject() {
        SoarHouse house = new SoarHouse();
        for (int what = 0; what < 12; what++) {
            Due.is("about of a new one " + what, house.about(what), 0);
        }
        Due.is("fault of a new one", house.fault(0), 0);
        Due.is("place of a new one", house.fault(1), -1);
        Due.is("another what", house.fault(2), -1);
        Due.is("another what", house.fault(-1), -1);
        Due.is("lift of an empty map", house.lift(63, 5), 0);
        Due.is("wind of an empty map", house.wind(0), 0);
        Due.is("top of an empty map", house.top(5), 40);
        Due.is("shut on an empty map", house.shut(0, 36, 40), 0);
        Due.is("rounded of nobody", house.rounded(0, false, 0), -1);
        Due.is("score of nobody", house.score(0, 0), -1);
    }

    private static void theTape() {
        SoarHouse house = new SoarHouse();
        Due.is("end of nothing", house.end(1), -1);
        Due.is("end below 0", house.end(-1), -1);
        Due.is("end at 0", house.end(0), 0);
        for (int i = 1; i <= 95; i++) {
            Due.is("feed " + i, house.feed(0x20202020, 0x20202020, 0x20202020, 0x0a0a0a0a, 0x20202020), 20 * i);
        }
        Due.is("feed beyond 1900", house.feed(0, 0, 0, 0, 0), -1);
        Due.is("bytes", house.about(9), 1900);
        Due.is("end beyond", house.end(1901), -1);
        Due.is("end at 1881", house.end(1881), 1881);
        Due.is("feed beyond 1900 by one", house.feed(0, 0, 0, 0, 0), -1);
        Due.is("end at 1880", house.end(1880), 1880);
        Due.is("feed up to 1900", house.feed(0x20202020, 0x20202020, 0x20202020, 0x20202020, 0x20202020), 1900);
        Due.is("law of 1900 bytes", house.law(), -2);
        Due.is("the tape stays", house.about(9), 1900);
        Due.is("a map of blanks", house.map(), 0);
        Due.is("the tape is empty", house.about(9), 0);
        Due.is("the highest byte comes first", house.feed(0x746f7020, 0x30203137, 0x3b746f70, 0x20312033, 0x3b202020), 20);
        Due.is("two tops", house.map(), 2);
        Due.is("top 0", house.top(0), 17);
        Due.is("top 1", house.top(1), 3);
    }

    private static void mapsAndWhatStays() {
        SoarHouse house = Due.on("glider a sink 1 2 3 4 handicap 100; field 1 1;");
        house.pilot(0);
        house.fix(0, 1, 2, 3);
        house.out(5);
        house.task(-1, -1, -1, 3);
        house.launch(true, 3);
        house.later(7);
        Due.is("a map with a fault", Due.map(house, "field 1 1; field 1 1;"), -1);
        Due.is("its fault", house.fault(0), 3);
        Due.is("its place", house.fault(1), 19);
        Due.is("gliders stay", house.about(3), 1);
        Due.is("pilots stay", house.about(4), 1);
        Due.is("fixes stay", house.about(5), 1);
        Due.is("out stay", house.about(8), 1);
        house.end(0);
        Due.is("a good map", Due.map(house, "top 3 4;"), 1);
        Due.is("its fault", house.fault(0), 0);
        Due.is("its place", house.fault(1), -1);
        Due.is("no fields", house.about(1), 0);
        Due.is("no gliders", house.about(3), 0);
        Due.is("no pilots", house.about(4), 0);
        Due.is("no fixes", house.about(5), 0);
        Due.is("no out", house.about(8), 0);
        Due.is("the time stays", house.about(6), 7);
        Due.is("launches stay", house.about(7), 1);
        Due.is("the task stays", house.about(10), 1);
    }

    private static void lawsAndWhatStays() {
        SoarHouse house = Due.on("glider a sink 1 2 3 4 handicap 100;");
        house.task(-1, -1, -1, 3);
        house.pilot(0);
        Due.is("a law", Due.law(house, "score 7;"), 1);
        Due.is("the tape is empty", house.about(9), 0);
        Due.is("there is a law", house.about(11), 1);
        Due.is("score", house.score(0, 0), 7);
        Due.is("a law with a fault", Due.law(house, "score 7"), -1);
        Due.is("its fault", house.fault(0), 2);
        Due.is("its place", house.fault(1), 7);
        Due.is("the tape is empty then too", house.about(9), 0);
        Due.is("the old law stays", house.score(0, 0), 7);
        StringBuilder wide = new StringBuilder("score 8;");
        while (wide.length() < 500) {
            wide.append(' ');
        }
        Due.is("a law of 500 bytes", Due.law(house, wide.toString()), 1);
        Due.is("its score", house.score(0, 0), 8);
        Due.is("no fault", house.fault(0), 0);
        Due.law(house, "?");
        Due.is("a fault", house.fault(0), 1);
        Due.is("a law of 501 bytes", Due.law(house, wide + " "), -2);
        Due.is("the tape stays", house.about(9), 501);
        Due.is("the fault ahead stays", house.fault(0), 1);
        Due.is("cut to 500", house.end(500), 500);
        Due.is("it is a law", house.law(), 1);
        Due.is("a map again", Due.map(house, "glider a sink 1 2 3 4 handicap 100;"), 1);
        Due.is("the law stays", house.about(11), 1);
    }

    private static void about() {
        SoarHouse house = Due.on("wall 1 1 above 3 from 0 to 1; field 1 1; field 1 2; field 1 3; road 0 0 1 1 5;"
            + "road 0 0 1 1 5; glider a sink 1 2 3 4 handicap 50; glider b sink 1 2 3 4 handicap 200;"
            + "glider c sink 1 2 3 4 handicap 51; glider n sink 0 0 0 30 handicap 199;");
        house.pilot(0);
        house.pilot(3);
        for (int i = 0; i < 5; i++) {
            house.fix(1, i, i, i);
        }
        house.untell(0);
        house.later(6);
        for (int i = 0; i < 7; i++) {
            house.launch(false, 35);
        }
        for (int i = 0; i < 8; i++) {
            house.out(i);
        }
        house.feed(0, 0, 0, 0, 0);
        int[] want = {1, 3, 2, 4, 2, 5, 6, 7, 8, 20, 0, 0};
        for (int what = 0; what < want.length; what++) {
            Due.is("about " + what, house.about(what), want[what]);
        }
        Due.is("about -1", house.about(-1), -1);
        Due.is("about 12", house.about(12), -1);
    }
}
