/** Promises 4 and 6: what a map may say, and its first fault. */
public final class MapFaultTest {
    private static final String GLIDER = "glider g sink 1 2 3 4 handicap 100;";

    public static void main(String[] args) {
        goodMaps();
        noTokens();
        cannotStand();
        toldAlready();
        cannotBe();
        roads();
        limits();
        Due.close();
    }

    private static void good(String text, int lines) {
        SoarHouse house = new SoarHouse();
        Due.is("map " + text, Due.map(house, text), lines);
        Due.is("fault of " + text, house.fault(0), 0);
        Due.is("place of " + text, house.fault(1), -1);
    }

    private static void goodMaps() {
        good("", 0);
        good(" \n ", 0);
        good("row0 abcdefgh;", 1);
        good("row 0007\nhgfedcba\n;row 0 aaaaaaaa;", 2);
        good("lift a0 1 2 3 4 20;lift h 0 0 0 0 0 0;", 2);
        good("wind 0 n 0;wind 5 w 3;wind 2 e 1;wind 3 s 2;", 4);
        good("top 0 1;top 5 40;", 2);
        good("wall 7 7 above 40 from 35 to 36;wall 0 0 above 0 from 0 to 1;", 2);
        good("field 0 0;field 7 7;", 2);
        good("glider zz sink 1 1 1 1 handicap 99;glider ab sink 1 1 1 1 handicap 99;glider ba sink 1 1 1 1 handicap 99;"
            + "glider b sink 1 1 1 1 handicap 99;", 4);
        good("glider aaaaaaaa sink 1 1 1 1 handicap 99;glider aaaaaaab sink 1 1 1 1 handicap 99;"
            + "glider baaaaaaa sink 1 1 1 1 handicap 99;glider zzzzzzzz sink 1 1 1 1 handicap 99;", 4);
        good("road 0 0 7 7 99;road 7 7 0 0 1;road 0 0 7 7 99;", 3);
        good("glider a sink 0 0 0 0 handicap 50;glider e sink 30 30 30 30 handicap 200;glider abcdefgh sink1 1 1 1 handicap50;", 3);
    }

    private static void noTokens() {
        Due.mapFault("Row", 1, 0);
        Due.mapFault("row 0 aaaaaaaa;?", 1, 15);
        Due.mapFault("row 0aaaaaaaa;", 1, 4);
        Due.mapFault("row 9aaaaaaaa;", 1, 4);
        Due.mapFault("row\t0 aaaaaaaa;", 1, 3);
        Due.mapFault("row 0 aaaaaaaaa;", 1, 6);
        Due.mapFault("row 00000 aaaaaaaa;", 1, 4);
        Due.mapFault("\u00e9", 1, 0);
        Due.mapFault("\u0000", 1, 0);
        Due.mapFault("top 0 10, top 0 10;", 1, 8);
        Due.mapFault("top 9 ?", 4, 4);
    }

    private static void cannotStand() {
        Due.mapFault(";", 2, 0);
        Due.mapFault("row", 2, 3);
        Due.mapFault("row  ", 2, 5);
        Due.mapFault("12", 2, 0);
        Due.mapFault("rows 0 aaaaaaaa;", 2, 0);
        Due.mapFault("score 1;", 2, 0);
        Due.mapFault("row a aaaaaaaa;", 2, 4);
        Due.mapFault("row 0 0;", 2, 6);
        Due.mapFault("row 0 aaaaaaaa row", 2, 15);
        Due.mapFault("lift 1 2 3 4 5 6;", 2, 5);
        Due.mapFault("lift a 1 2 3 4 5;", 2, 16);
        Due.mapFault("lift a 1 2 3 4 5 6 7;", 2, 19);
        Due.mapFault("wind 0 x 1;", 2, 7);
        Due.mapFault("wind 0 north 1;", 2, 7);
        Due.mapFault("wind 0 1 1;", 2, 7);
        Due.mapFault("wind 0 n n;", 2, 9);
        Due.mapFault("wall 0 0 over 1 from 0 to 1;", 2, 9);
        Due.mapFault("wall 0 0 above 1 to 0 to 1;", 2, 17);
        Due.mapFault("wall 0 0 above 1 from 0 from 1;", 2, 24);
        Due.mapFault("field 1;", 2, 7);
        Due.mapFault("field 1 -1;", 2, 8);
        Due.mapFault("glider 1 sink 1 1 1 1 handicap 100;", 2, 7);
        Due.mapFault("glider sink sink 1 1 1 1 handicap 100;", 2, 7);
        Due.mapFault("glider rounded sink 1 1 1 1 handicap 100;", 2, 7);
        Due.mapFault("glider score sink 1 1 1 1 handicap 100;", 2, 7);
        Due.mapFault("glider a sank 1 1 1 1 handicap 100;", 2, 9);
        Due.mapFault("glider a sink 1 1 1 handicap 100;", 2, 20);
        Due.mapFault("glider a sink 1 1 1 1 100;", 2, 22);
        String reserved = "row lift wind top wall above from to field road glider sink handicap score and or not done"
            + " legs time best first walls rounded";
        for (String word : reserved.split(" ")) {
            Due.mapFault("glider " + word + " sink 1 1 1 1 handicap 100;", 2, 7);
        }
    }

    private static void toldAlready() {
        Due.mapFault("row 1 aaaaaaaa;row 1", 3, 19);
        Due.mapFault("lift a 1 1 1 1 1 1;lift a", 3, 24);
        Due.mapFault("wind 1 n 0;wind 1", 3, 16);
        Due.mapFault("top 1 1;top 1", 3, 12);
        Due.mapFault("field 1 2;field 1 2", 3, 18);
        Due.mapFault(GLIDER + "glider g", 3, 42);
        Due.mapFault("row 1 aaaaaaaa;row 01a", 1, 19);
        Due.mapFault("row 1 aaaaaaaa;row 2 aaaaaaaa;row 1", 3, 34);
        Due.mapFault("lift a 1 1 1 1 1 1;lift b 1 1 1 1 1 1;lift a", 3, 43);
        Due.mapFault("field 1 2;field 2 1;field 1 2", 3, 28);
        Due.mapFault("glider ba sink 1 1 1 1 handicap 99;" + GLIDER + "glider ba", 3, 77);
    }

    private static void cannotBe() {
        Due.mapFault("row 8", 4, 4);
        Due.mapFault("row 0 aaaaaaa;", 4, 6);
        Due.mapFault("row 0 aaaaaaai;", 4, 6);
        Due.mapFault("row 0 row;", 4, 6);
        Due.mapFault("lift i 1 1 1 1 1 1;", 4, 5);
        Due.mapFault("lift aa 1 1 1 1 1 1;", 4, 5);
        Due.mapFault("lift a 1 1 1 1 1 21;", 4, 17);
        Due.mapFault("wind 6 n 1;", 4, 5);
        Due.mapFault("wind 5 n 4;", 4, 9);
        Due.mapFault("top 6 1;", 4, 4);
        Due.mapFault("top 5 0;", 4, 6);
        Due.mapFault("top 5 41;", 4, 6);
        Due.mapFault("wall 8 0 above 1 from 0 to 1;", 4, 5);
        Due.mapFault("wall 0 8 above 1 from 0 to 1;", 4, 7);
        Due.mapFault("wall 0 0 above 41 from 0 to 1;", 4, 15);
        Due.mapFault("wall 0 0 above 1 from 37 to 1;", 4, 22);
        Due.mapFault("wall 0 0 above 1 from 5 to 5;", 4, 27);
        Due.mapFault("wall 0 0 above 1 from 36 to 36;", 4, 28);
        Due.mapFault("wall 0 0 above 1 from 5 to 37;", 4, 27);
        Due.mapFault("field 8 0;", 4, 6);
        Due.mapFault("field 0 9999;", 4, 8);
        Due.mapFault("road 0 0 0 1 0;", 4, 13);
        Due.mapFault("road 0 0 0 1 100;", 4, 13);
        Due.mapFault("road 8 0 0 1 10;", 4, 5);
        Due.mapFault("road 0 0 0 8 10;", 4, 11);
        Due.mapFault("glider a sink 31 1 1 1 handicap 100;", 4, 14);
        Due.mapFault("glider a sink 1 1 1 31 handicap 100;", 4, 20);
        Due.mapFault("glider a sink 1 1 1 1 handicap 49;", 4, 31);
        Due.mapFault("glider a sink 1 1 1 1 handicap 201;", 4, 31);
    }

    private static void roads() {
        Due.mapFault("road 3 4 3 4 10;", 5, 11);
        Due.mapFault("road 3 4 3 4", 5, 11);
        Due.mapFault("road 3 4 3 4a", 1, 11);
        good("road 3 4 4 3 10;", 1);
    }

    private static void limits() {
        String walls = "wall 0 0 above 1 from 0 to 1;".repeat(12);
        good(walls, 12);
        Due.mapFault(walls + " wall", 2, walls.length() + 1);
        String roads = "road 0 0 0 1 9;".repeat(20);
        good(roads, 20);
        Due.mapFault(roads + "road 9", 2, roads.length());
        String gliders = "";
        for (char name = 'a'; name < 'e'; name++) {
            gliders += "glider " + name + " sink 1 1 1 1 handicap 100;";
        }
        good(gliders, 4);
        Due.mapFault(gliders + "glider a", 2, gliders.length());
        StringBuilder fields = new StringBuilder();
        for (int cell = 0; cell < 64; cell++) {
            fields.append("field ").append(cell % 8).append(' ').append(cell / 8).append(';');
        }
        good(fields.toString(), 64);
        Due.is("fields", Due.on(fields.toString()).about(1), 64);
    }
}
