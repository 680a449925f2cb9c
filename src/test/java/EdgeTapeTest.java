/** Promises 1 to 6 and 33, sentence by sentence: the tape's edges, maps and laws that are taken or not, what is about. */
public final class EdgeTapeTest {
    private static final int BLANKS = 0x20202020;
    private static final String GLIDER = "glider g sink 1 1 1 1 handicap 100;";

    public static void main(String[] args) {
        aNewObject();
        twentyBytesHighestFirst();
        howManyThereAre();
        noMoreThan1900();
        theFirstBytes();
        notSoMany();
        whatIsBehindTheEndIsGone();
        theMapsTape();
        aMapOf1900Bytes();
        pilotsFixesAndOutAreNone();
        aMapWithAFaultLeavesAll();
        nothingIsLeftOfOlderMaps();
        theLawsTape();
        aLawOf500Bytes();
        aLawOfMoreBytes();
        aLawWithAFaultLeavesTheLaw();
        theLatestFault();
        aboutAll();
        Due.close();
    }

    private static int blanks(SoarHouse house) {
        return house.feed(BLANKS, BLANKS, BLANKS, BLANKS, BLANKS);
    }

    private static SoarHouse withBytes(int bytes) {
        SoarHouse house = new SoarHouse();
        for (int i = 0; i < 95 && house.about(9) < bytes; i++) {
            blanks(house);
        }
        house.end(bytes);
        return house;
    }

    /** "An empty MAP, no TASK, no pilots." */
    private static void aNewObject() {
        SoarHouse house = new SoarHouse();
        for (int cell = 0; cell < 64; cell++) {
            Due.is("no lift in " + cell, house.lift(cell, cell % 6), 0);
            Due.is("no road to " + cell, house.minutes(0, cell), cell == 0 ? 0 : -1);
            Due.is("no wall in " + cell, house.shut(cell, cell % 37, 40), 0);
        }
        for (int hour = 0; hour < 6; hour++) {
            Due.is("no wind", house.wind(hour), 0);
            Due.is("no top", house.top(hour), 40);
        }
        for (int what = 0; what < 12; what++) {
            Due.is("about " + what, house.about(what), 0);
        }
        Due.is("no glider to move", house.move(0, 0, 0, 0, 0), -1);
        Due.is("no glider to be safe", house.safe(0, 0, 0, 0), -1);
        Due.is("no glider for a pilot", house.pilot(0), -1);
        Due.is("no task", house.soonest(0, 0, 0, 0, 0), -1);
        Due.is("no pilot", house.fix(0, 0, 0, 0), -1);
        Due.is("no fix", house.untell(0), false);
        Due.is("no launch", house.launched(0, 0), -1);
        Due.is("none out", house.fetched(), 0);
        Due.is("the time", house.later(0), 0);
        Due.is("an empty tape", house.end(1), -1);
        Due.is("an empty tape is a map", house.map(), 0);
    }

    /** "Twenty bytes come behind those on the TAPE, of each number the highest first". */
    private static void twentyBytesHighestFirst() {
        for (int at = 0; at < 20; at++) {
            int[] fours = {BLANKS, BLANKS, BLANKS, BLANKS, BLANKS};
            int shift = 24 - 8 * (at % 4);
            fours[at / 4] = BLANKS & ~(255 << shift) | 255 << shift;
            SoarHouse house = new SoarHouse();
            blanks(house);
            house.feed(fours[0], fours[1], fours[2], fours[3], fours[4]);
            Due.is("a map with a wrong byte", house.map(), -1);
            Due.is("its fault", house.fault(0), 1);
            Due.is("the place of byte " + at, house.fault(1), 20 + at);
        }
        SoarHouse house = new SoarHouse();
        house.feed(0x746f7020, 0x30203137, 0x3b746f70, 0x20312032, 0x333b0a20);
        Due.is("all twenty are read", house.map(), 2);
        Due.is("the first ten", house.top(0), 17);
        Due.is("the rest", house.top(1), 23);
    }

    /** "how many there are". */
    private static void howManyThereAre() {
        SoarHouse house = new SoarHouse();
        for (int i = 1; i <= 95; i++) {
            Due.is("feed " + i, blanks(house), 20 * i);
            Due.is("bytes", house.about(9), 20 * i);
        }
        house.end(7);
        Due.is("behind seven", blanks(house), 27);
    }

    /** "NONE, and nothing comes, if there would be more than 1,900". */
    private static void noMoreThan1900() {
        for (int bytes = 1875; bytes <= 1900; bytes++) {
            SoarHouse house = withBytes(bytes);
            Due.is("to " + bytes, house.feed(0, 0, 0, 0, 0), bytes <= 1880 ? bytes + 20 : -1);
            Due.is("bytes", house.about(9), bytes <= 1880 ? bytes + 20 : bytes);
            Due.is("nothing came", house.end(bytes + 1), bytes <= 1880 ? bytes + 1 : -1);
            house.end(bytes);
            Due.is("a map of blanks", house.map(), 0);
        }
    }

    /** "The TAPE has its first n bytes: n". */
    private static void theFirstBytes() {
        for (int n : new int[] {0, 1, 19, 20, 39, 40}) {
            SoarHouse house = withBytes(40);
            Due.is("end " + n, house.end(n), n);
            Due.is("bytes", house.about(9), n);
            Due.is("again", house.end(n), n);
        }
        SoarHouse empty = new SoarHouse();
        Due.is("of none none", empty.end(0), 0);
        SoarHouse full = withBytes(1900);
        Due.is("all", full.end(1900), 1900);
    }

    /** "NONE, doing nothing, if it has not so many, or n is below 0". */
    private static void notSoMany() {
        for (int bytes : new int[] {0, 20, 33, 1900}) {
            for (int n : new int[] {bytes + 1, -1, Integer.MIN_VALUE, Integer.MAX_VALUE}) {
                SoarHouse house = withBytes(bytes);
                Due.is("end " + n + " of " + bytes, house.end(n), -1);
                Due.is("bytes", house.about(9), bytes);
                Due.is("it has them still", house.end(bytes), bytes);
            }
        }
    }

    private static void whatIsBehindTheEndIsGone() {
        SoarHouse house = new SoarHouse();
        Due.feed(house, "top 0 17;????????????");
        house.end(9);
        Due.is("not longer again", house.end(10), -1);
        blanks(house);
        Due.is("blanks behind it", house.map(), 1);
    }

    /** "The TAPE (empty then) is the MAP: how many lines". */
    private static void theMapsTape() {
        SoarHouse house = new SoarHouse();
        StringBuilder text = new StringBuilder();
        for (int lines = 0; lines <= 64; lines += 16) {
            Due.is("lines", Due.map(house, text.toString()), lines);
            Due.is("the tape is empty", house.about(9), 0);
            Due.is("no byte is left", house.end(1), -1);
            Due.is("fields", house.about(1), lines);
            for (int cell = lines; cell < lines + 16; cell++) {
                text.append("field ").append(cell % 8).append(' ').append(cell / 8).append(";\n");
            }
        }
        Due.is("the empty tape is a map", house.map(), 0);
        Due.is("an empty one", house.about(1), 0);
    }

    /** "A MAP is a text of at most 1,900 bytes". */
    private static void aMapOf1900Bytes() {
        String wide = " ".repeat(1900 - 9) + "top 5 23;";
        SoarHouse house = new SoarHouse();
        Due.is("a map to the last byte", Due.map(house, wide), 1);
        Due.is("its top", house.top(5), 23);
        Due.mapFault(wide.substring(0, 1899) + "?", 1, 1899);
        Due.mapFault(" " + wide.substring(0, 1899), 2, 1900);
    }

    private static SoarHouse busy() {
        SoarHouse house = Due.on(GLIDER + "row 0 bbbbbbbb; lift b 1 2 3 4 5 6; wind 0 w 3; top 0 9; wall 1 1 above 3 from 2 to 4;"
            + "field 3 3; road 0 0 1 1 5;");
        house.task(1, 2, 3, 4);
        house.zone(2);
        house.field(3, 2, 4);
        house.launch(false, 3);
        house.later(7);
        house.pilot(0);
        house.pilot(0);
        house.fix(1, 3, 1, 1);
        house.out(9);
        Due.law(house, "score 41 + rounded;");
        return house;
    }

    /** "(pilots, FIXES and OUT are none then)"; nothing is said of the rest, so it stays. */
    private static void pilotsFixesAndOutAreNone() {
        SoarHouse house = busy();
        Due.is("a map", Due.map(house, GLIDER), 1);
        int[] want = {0, 0, 0, 1, 0, 0, 7, 1, 0, 0, 1, 1};
        for (int what = 0; what < want.length; what++) {
            Due.is("about " + what, house.about(what), want[what]);
        }
        Due.is("rows are those of the new map", house.lift(0, 0), 0);
        Due.is("winds too", house.wind(5), 0);
        Due.is("tops too", house.top(5), 40);
        Due.is("walls too", house.shut(9, 2, 40), 0);
        Due.is("roads too", house.minutes(0, 9), -1);
        Due.is("none is out", house.fetched(), 0);
        Due.is("no fix is there", house.untell(0), false);
        Due.is("the first pilot", house.pilot(0), 0);
        Due.is("the first fix", house.fix(0, 0, 1, 1), 0);
        Due.is("the zone stays, and the task", house.rounded(0, false, 7), 3);
        Due.is("told at the time that stays", house.rounded(0, false, 6), 0);
        Due.is("the law stays", house.score(0, 7), 44);
        Due.is("the launch stays", house.launched(0, 1), 6);
        Due.is("the winch stays", house.launch(false, 0), 1);
        Due.is("and what it takes", house.launched(1, 1), 9);
    }

    /** "NONE: a FAULT (all stays)". */
    private static void aMapWithAFaultLeavesAll() {
        for (String text : new String[] {"?", "row", "top 0 1; top 0 2;", "top 0 0;", "road 1 1 1 1 1;", GLIDER + "x"}) {
            SoarHouse house = busy();
            Due.is("a map with a fault", Due.map(house, text), -1);
            int[] want = {1, 1, 1, 1, 2, 1, 7, 1, 1, 0, 1, 1};
            for (int what = 0; what < want.length; what++) {
                Due.is("about " + what, house.about(what), want[what]);
            }
            Due.is("lift", house.lift(7, 5), 6);
            Due.is("wind", house.wind(0), 15);
            Due.is("top", house.top(0), 9);
            Due.is("wall", house.shut(9, 3, 4), 1);
            Due.is("road", house.minutes(9, 0), 5);
            Due.is("safe", house.safe(0, 27, 0, 0), 1);
            Due.is("fix", house.rounded(1, false, 7), 3);
            Due.is("score", house.score(1, 7), 44);
            Due.is("pilot", house.pilot(0), 2);
            Due.is("out", house.fetched(), 1);
        }
    }

    /** A MAP tells all: nothing of MAPS ahead of it, taken or not, is left in it. */
    private static void nothingIsLeftOfOlderMaps() {
        String whole = "row 0 hhhhhhhh; row 7 hhhhhhhh; lift h 9 9 9 9 9 9; lift a 8 8 8 8 8 8; wind 0 w 3; wind 5 e 2; top 0 7;"
            + "top 3 8; wall 1 1 above 3 from 2 to 4; field 3 3; road 0 0 1 1 5; glider g sink 1 2 3 4 handicap 77;";
        for (int maps = 1; maps <= 4; maps++) {
            for (String ahead : new String[] {whole, whole + "?"}) {
                SoarHouse house = new SoarHouse();
                for (int i = 0; i < maps; i++) {
                    Due.is("a whole map", Due.map(house, ahead), ahead.equals(whole) ? 12 : -1);
                }
                Due.is("the same again", Due.map(house, whole), 12);
                Due.map(house, ahead);
                Due.is("a small one", Due.map(house, "top 4 9; lift h 6 6 6 6 6 6;"), 2);
                for (int what = 0; what < 4; what++) {
                    Due.is("about " + what, house.about(what), 0);
                }
                for (int hour = 0; hour < 6; hour++) {
                    Due.is("lift", house.lift(0, hour), 0);
                    Due.is("lift", house.lift(63, hour), 0);
                    Due.is("lift", house.lift(27, hour), 0);
                    Due.is("wind", house.wind(hour), 0);
                    Due.is("top", house.top(hour), hour < 4 ? 40 : 9);
                }
                Due.is("wall", house.shut(9, 3, 40), 0);
                Due.is("road", house.minutes(0, 9), -1);
                Due.is("all can be told again", Due.map(house, whole), 12);
            }
        }
    }

    /** "The TAPE (empty then) is the LAW: 1". */
    private static void theLawsTape() {
        SoarHouse house = busy();
        Due.is("a law", Due.law(house, "score 5;"), 1);
        Due.is("the tape is empty", house.about(9), 0);
        Due.is("no byte is left", house.end(1), -1);
        Due.is("it is the law", house.score(0, 0), 5);
        Due.is("there is one", house.about(11), 1);
        Due.is("nothing is no law", house.law(), -1);
        Due.is("pilots stay with a law", house.about(4), 2);
        Due.is("fixes stay with a law", house.about(5), 1);
        Due.is("out stay with a law", house.about(8), 1);
    }

    private static SoarHouse scoring() {
        SoarHouse house = Due.on(GLIDER);
        house.pilot(0);
        house.task(-1, -1, -1, 0);
        return house;
    }

    /** "A LAW is a text of at most 500 bytes". */
    private static void aLawOf500Bytes() {
        for (int bytes = 498; bytes <= 500; bytes++) {
            SoarHouse house = scoring();
            String text = "score" + " ".repeat(bytes - 7) + "6;";
            Due.is("a law to the last byte", Due.law(house, text), 1);
            Due.is("its value", house.score(0, 0), 6);
        }
        Due.lawFault("score 6;" + " ".repeat(491) + "?", 1, 499);
        Due.lawFault("score 6" + " ".repeat(493), 2, 500);
    }

    /** "-2, and the TAPE stays: more than 500 bytes". */
    private static void aLawOfMoreBytes() {
        for (int bytes : new int[] {501, 502, 520, 1899, 1900}) {
            SoarHouse house = scoring();
            Due.law(house, "score 3;");
            Due.law(house, "score 4 4;");
            Due.feed(house, "score 6;" + " ".repeat(bytes - 8));
            Due.is("a law of " + bytes, house.law(), -2);
            Due.is("its bytes stay", house.about(9), bytes);
            Due.is("the fault stays", house.fault(0), 2);
            Due.is("its place stays", house.fault(1), 8);
            Due.is("the law stays", house.score(0, 0), 3);
            Due.is("again", house.law(), -2);
            Due.is("all bytes are there", house.end(500), 500);
            Due.is("cut it is a law", house.law(), 1);
            Due.is("its value", house.score(0, 0), 6);
        }
        SoarHouse house = new SoarHouse();
        Due.feed(house, "?".repeat(501));
        Due.is("whatever it says", house.law(), -2);
        Due.is("no fault of it", house.fault(0), 0);
        Due.is("no place of it", house.fault(1), -1);
        Due.is("no law", house.about(11), 0);
        Due.is("it can be no map", house.map(), -1);
        Due.is("that is a fault", house.fault(0), 1);
    }

    /** "NONE: a FAULT (that there is stays)"; only -2 leaves the TAPE. */
    private static void aLawWithAFaultLeavesTheLaw() {
        SoarHouse house = scoring();
        Due.is("a first one with a fault", Due.law(house, "score;"), -1);
        Due.is("there is none still", house.about(11), 0);
        Due.is("without a law", house.score(0, 0), 0);
        Due.law(house, "score 3 + (4 * 2) - 1;");
        for (String text : new String[] {"", "score 9", "score 9; ?", "score 9 + 9 + 9 + 9 + 9 ;;", "score (9", "not"}) {
            Due.is("a law with a fault", Due.law(house, text), -1);
            Due.is("the tape is empty", house.about(9), 0);
            Due.is("the law stays", house.score(0, 0), 10);
            Due.is("there is one", house.about(11), 1);
        }
    }

    private static void faultIs(SoarHouse house, int number, int place) {
        Due.is("fault", house.fault(0), number);
        Due.is("place", house.fault(1), place);
        for (int what : new int[] {-1, 2, 3, Integer.MIN_VALUE, Integer.MAX_VALUE}) {
            Due.is("fault of another what", house.fault(what), -1);
        }
    }

    /** "Of the latest of both that was not -2 what 0: its FAULT (0), 1: its place (NONE). NONE for another what." */
    private static void theLatestFault() {
        SoarHouse house = new SoarHouse();
        faultIs(house, 0, -1);
        Due.map(house, "top 9");
        faultIs(house, 4, 4);
        Due.law(house, "score 1;");
        faultIs(house, 0, -1);
        Due.law(house, "?");
        faultIs(house, 1, 0);
        Due.map(house, "top 1 1;");
        faultIs(house, 0, -1);
        Due.map(house, "road 0 1 0 1");
        faultIs(house, 5, 11);
        Due.law(house, "score 1 1");
        faultIs(house, 2, 8);
        Due.feed(house, " ".repeat(501));
        house.law();
        faultIs(house, 2, 8);
        house.end(500);
        house.law();
        faultIs(house, 2, 500);
        house.map();
        faultIs(house, 0, -1);
    }

    /** "What 0: walls, 1: fields, .. NONE for another what": of all as much as there can be. */
    private static void aboutAll() {
        StringBuilder text = new StringBuilder();
        text.append("wall 1 1 above 3 from 2 to 4;".repeat(12)).append("road 0 0 1 1 5;".repeat(20));
        for (int i = 0; i < 64; i++) {
            text.append("field ").append(i % 8).append(' ').append(i / 8).append(';');
        }
        for (char name = 'a'; name <= 'd'; name++) {
            text.append(GLIDER.replace("glider g", "glider " + name));
        }
        SoarHouse house = Due.on(text.toString());
        for (int i = 0; i < 200; i++) {
            if (i < 8) {
                house.pilot(i % 4);
            }
            house.fix(i % 8, i % 36, i % 64, i % 41);
        }
        for (int i = 0; i < 30; i++) {
            house.launch(i % 2 == 0, i);
            house.later(1000);
        }
        for (int i = 0; i < 9; i++) {
            house.out(i);
        }
        house.task(-1, -1, -1, 0);
        Due.law(house, "score 1;");
        blanks(house);
        house.end(19);
        int[] want = {12, 64, 20, 4, 8, 200, 30000, 30, 9, 19, 1, 1};
        for (int what = 0; what < want.length; what++) {
            Due.is("about " + what, house.about(what), want[what]);
        }
        for (int what : new int[] {-1, 12, 13, Integer.MIN_VALUE, Integer.MAX_VALUE}) {
            Due.is("about " + what, house.about(what), -1);
        }
    }
}
