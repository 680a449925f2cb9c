import java.util.ArrayList;
import java.util.List;

/** The sentences on TOKENS, lines of a MAP and their FAULTS (terms, part 1), each at its edges. */
public final class EdgeMapTest {
    private static final String GLIDER = "glider g sink 1 1 1 1 handicap 100;";
    private static final String[] LINES = {"row 3 abcdefgh ;", "lift b 1 2 3 4 5 6 ;", "wind 2 n 3 ;", "top 2 30 ;",
        "wall 1 2 above 3 from 4 to 5 ;", "field 1 2 ;", "road 1 2 3 4 5 ;", "glider abc sink 1 2 3 4 handicap 100 ;"};

    public static void main(String[] args) {
        everyByte();
        words();
        numbers();
        blanksPartThemOrNot();
        noLetterBehindANumber();
        everyByteBehindANumber();
        reservedWords();
        wordsAtTheEndOfTheTape();
        names();
        everyNumber();
        rowsAndGrounds();
        windsAndHours();
        wallSteps();
        cutShort();
        strangers();
        leftOutOrDoubled();
        toldTwice();
        atMost();
        theFirstByItsPlace();
        theLeastAtOnePlace();
        roads();
        Due.close();
    }

    private static void good(String text, int lines) {
        SoarHouse house = new SoarHouse();
        Due.is("map " + text, Due.map(house, text), lines);
        Due.is("fault of " + text, house.fault(0), 0);
        Due.is("place of " + text, house.fault(1), -1);
    }

    /** "words (a .. z ..), N (.. digits), signs ; ( ) < > = + - * /; blanks (32, 10)". */
    private static void everyByte() {
        for (int sign = 0; sign < 256; sign++) {
            boolean letter = sign >= 'a' && sign <= 'z';
            boolean token = letter || sign >= '0' && sign <= '9' || ";()<>=+-*/".indexOf(sign) >= 0;
            boolean blank = sign == 32 || sign == 10;
            String text = String.valueOf((char) sign);
            if (blank) {
                good(text, 0);
                good("top" + text + "1" + text + text + "2;", 1);
            } else {
                Due.mapFault(text, token ? 2 : 1, 0);
                Due.mapFault("top 1 2; " + text, token ? 2 : 1, 9);
                Due.mapFault("top " + text + " " + text, topFault(sign, token), sign == '0' ? 6 : sign > '0' && sign <= '5' ? 7 : 4);
            }
        }
    }

    /** The fault of a top whose hour and number are one byte each, and the same. */
    private static int topFault(int sign, boolean token) {
        if (!token) {
            return 1;
        }
        return sign == '0' || sign >= '6' && sign <= '9' ? 4 : 2;
    }

    /** "words (a .. z, 8 at most)", "each is as long as can be". */
    private static void words() {
        for (int length = 1; length <= 12; length++) {
            String name = "z".repeat(length);
            String text = "glider " + name + " sink 1 1 1 1 handicap 100;";
            if (length <= 8) {
                good(text, 1);
            } else {
                Due.mapFault(text, 1, 7);
            }
        }
        Due.mapFault("rowrow 1 aaaaaaaa;", 2, 0);
        Due.mapFault("top 1 1;topwall", 2, 8);
        Due.mapFault("top 1 1;handicaps", 1, 8);
        Due.mapFault("a".repeat(1900), 1, 0);
    }

    /** "N (1 to 4 digits)". */
    private static void numbers() {
        good("top 0005 0040;", 1);
        good("top 05 040;", 1);
        Due.mapFault("top 00005 40;", 1, 4);
        Due.mapFault("top 5 00040;", 1, 6);
        Due.mapFault("top 5 9999;", 4, 6);
        Due.mapFault("top 5 10000;", 1, 6);
        Due.mapFault("top 5 " + "1".repeat(1894), 1, 6);
        Due.mapFault("top 5 99999999999;", 1, 6);
        Due.mapFault("row 4294967296 aaaaaaaa;", 1, 4);
    }

    /** "blanks (32, 10) part them or not". */
    private static void blanksPartThemOrNot() {
        good("row0 abcdefgh;row1\nabcdefgh;\n\nrow\n2 abcdefgh ;", 3);
        good("top0 1;top1 2;top2 3;", 3);
        good("lift a0 0 0 0 0 0;wind0 n0;field0 0;glider g sink0 0 0 0 handicap50;", 4);
        good("wall 0 0 above0 from0 to1;", 1);
        good(" \n \n", 0);
        good("\n top\n\n0\n \n1\n;\n ", 1);
        Due.mapFault("to p 0 1;", 2, 0);
        Due.mapFault("top 0 1 0;", 2, 8);
        Due.mapFault("top 01;", 2, 6);
    }

    /** "no letter directly behind an N". */
    private static void noLetterBehindANumber() {
        Due.mapFault("row 0abcdefgh;", 1, 4);
        Due.mapFault("wind 0n 1;", 1, 5);
        Due.mapFault("wind 0 n1s;", 1, 8);
        Due.mapFault("wall 0 0above 0 from 0 to 1;", 1, 7);
        Due.mapFault("wall 0 0 above 0from 0 to 1;", 1, 15);
        Due.mapFault("wall 0 0 above 0 from 0to 1;", 1, 22);
        Due.mapFault("glider g sink 1 1 1 1handicap 100;", 1, 20);
        Due.mapFault("top 0 1z;", 1, 6);
        Due.mapFault("top 0 1a", 1, 6);
        Due.mapFault("top 0 1A;", 1, 7);
        good("top 0 1\n;", 1);
        good("top 0 1;top 1 1;", 2);
    }

    private static void everyByteBehindANumber() {
        for (int sign = 0; sign < 256; sign++) {
            String text = "top 0 1" + (char) sign;
            if (sign >= 'a' && sign <= 'z') {
                Due.mapFault(text, 1, 6);
            } else if (sign >= '0' && sign <= '9') {
                Due.mapFault(text, 2, 8);
            } else if (sign == ' ' || sign == '\n') {
                Due.mapFault(text, 2, 8);
            } else if (sign == ';') {
                good(text, 1);
            } else {
                Due.mapFault(text, "()<>=+-*/".indexOf(sign) >= 0 ? 2 : 1, 7);
            }
        }
    }

    /** A word that is the begin of another one, with no byte behind it. */
    private static void wordsAtTheEndOfTheTape() {
        for (String word : "row lift wind top wall above from to field road glider sink handicap score rounded".split(" ")) {
            for (int length = 1; length <= word.length(); length++) {
                String part = word.substring(0, length);
                String text = " ".repeat(1900 - length) + part;
                boolean line = "row lift wind top wall field road glider".contains(part) && length == word.length();
                Due.mapFault(text, 2, line && !part.equals("to") ? 1900 : 1900 - length);
                Due.mapFault(text.substring(1400), 2, line && !part.equals("to") ? 500 : 500 - length);
            }
        }
    }

    /** "a NAME": two that differ by a letter's place or number are two. */
    private static void names() {
        String[][] sets = {{"a", "aa", "aaa", "aaaaaaaa"}, {"ab", "ba", "b", "aab"}, {"z", "zz", "az", "za"},
            {"zzzzzzzz", "zzzzzzza", "azzzzzzz", "zzzzzzz"}, {"abc", "bca", "cab", "acb"}, {"aabb", "abab", "bbaa", "abba"},
            {"a", "b", "c", "d"}, {"ad", "bc", "cb", "da"}, {"abcdefgh", "abcdefgi", "bbcdefgh", "abcdefg"}};
        for (String[] set : sets) {
            StringBuilder text = new StringBuilder();
            for (String name : set) {
                text.append("glider ").append(name).append(" sink 1 1 1 1 handicap 100;");
            }
            good(text.toString(), 4);
            Due.mapFault("glider " + set[0] + "\nsink 1 1 1 1 handicap 100;glider " + set[0] + " sink 1 1 1 1 handicap 100;", 3,
                41 + set[0].length());
            String last = "glider " + set[0] + " sink 1 1 1 1 handicap 100;";
            Due.mapFault(last + " ".repeat(1900 - last.length() - 7 - set[1].length()) + "glider " + set[1], 2, 1900);
            Due.mapFault(last + " ".repeat(1900 - last.length() - 7 - set[0].length()) + "glider " + set[0], 3,
                1900 - set[0].length());
            for (int i = 0; i < 3; i++) {
                String three = "glider " + set[i] + " sink 1 1 1 1 handicap 100;glider other sink 1 1 1 1 handicap 100;";
                Due.mapFault(three + "glider " + set[i] + " sink", 3, three.length() + 7);
            }
        }
    }

    /** "Words that stand for themselves here and in LAWS .. are no NAMES". */
    private static void reservedWords() {
        String reserved = "row lift wind top wall above from to field road glider sink handicap score and or not done"
            + " legs time best first walls rounded";
        for (String word : reserved.split(" ")) {
            Due.mapFault("glider " + word + " sink 1 1 1 1 handicap 100;", 2, 7);
            String shorter = word.substring(0, word.length() - 1);
            if (!reserved.contains(shorter + " ")) {
                good("glider " + shorter + " sink 1 1 1 1 handicap 100;", 1);
            }
            String longer = word + "x";
            if (longer.length() <= 8) {
                good("glider " + longer + " sink 1 1 1 1 handicap 100;", 1);
            }
            String other = word.substring(0, word.length() - 1) + "q";
            good("glider " + other + " sink 1 1 1 1 handicap 100;", 1);
            good("glider x" + word.substring(1) + " sink 1 1 1 1 handicap 100;", 1);
        }
        for (String word : "n e s w a h row".split(" ")) {
            if (word.length() == 1) {
                good("glider " + word + " sink 1 1 1 1 handicap 100;", 1);
            }
        }
        good("glider wallwall sink 1 1 1 1 handicap 100;", 1);
        good("glider rowlift sink 1 1 1 1 handicap 100;", 1);
    }

    private static void range(String line, int least, int most) {
        int place = line.indexOf('#');
        good(line.replace("#", "" + least), 1);
        good(line.replace("#", "" + most), 1);
        for (int value : new int[] {least - 1, most + 1, 9999}) {
            if (value >= 0) {
                Due.mapFault(line.replace("#", "" + value), 4, place);
            }
        }
    }

    /** Every number of every line: the least and the most that it can be, and those beside them. */
    private static void everyNumber() {
        range("row # abcdefgh;", 0, 7);
        for (int i = 0; i < 6; i++) {
            range("lift b" + " 1".repeat(i) + " #" + " 2".repeat(5 - i) + ";", 0, 20);
        }
        range("wind # n 3;", 0, 5);
        range("wind 2 n #;", 0, 3);
        range("top # 9;", 0, 5);
        range("top 2 #;", 1, 40);
        range("wall # 2 above 3 from 4 to 5;", 0, 7);
        range("wall 1 # above 3 from 4 to 5;", 0, 7);
        range("wall 1 2 above # from 4 to 5;", 0, 40);
        range("wall 1 2 above 3 from 4 to #;", 5, 36);
        range("field # 2;", 0, 7);
        range("field 2 #;", 0, 7);
        range("road # 2 3 4 5;", 0, 7);
        range("road 1 # 3 4 5;", 0, 7);
        range("road 1 2 # 4 5;", 0, 7);
        range("road 1 2 3 # 5;", 0, 7);
        range("road 1 2 3 4 #;", 1, 99);
        for (int i = 0; i < 4; i++) {
            range("glider g sink" + " 1".repeat(i) + " #" + " 2".repeat(3 - i) + " handicap 100;", 0, 30);
        }
        range("glider g sink 1 1 1 1 handicap #;", 50, 200);
    }

    /** "a number, or a WORD of row or lift, that can't be". */
    private static void rowsAndGrounds() {
        for (char letter = 'a'; letter <= 'z'; letter++) {
            for (int x = 0; x < 8; x++) {
                String row = "row 7 " + "a".repeat(x) + letter + "h".repeat(7 - x) + ";";
                if (letter <= 'h') {
                    good(row, 1);
                } else {
                    Due.mapFault(row, 4, 6);
                }
            }
            if (letter <= 'h') {
                good("lift " + letter + " 0 0 0 0 0 20;", 1);
            } else {
                Due.mapFault("lift " + letter + " 0 0 0 0 0 20;", 4, 5);
            }
        }
        for (int length = 1; length <= 9; length++) {
            String row = "row 7 " + "a".repeat(length) + ";";
            if (length == 8) {
                good(row, 1);
            } else {
                Due.mapFault(row, length > 8 ? 1 : 4, 6);
            }
            if (length > 1) {
                Due.mapFault("lift " + "a".repeat(length) + " 1 1 1 1 1 1;", length > 8 ? 1 : 4, 5);
            }
        }
        Due.mapFault("row 7 handicap;", 4, 6);
        Due.mapFault("lift lift 1 1 1 1 1 1;", 4, 5);
        Due.mapFault("lift row 1 1 1 1 1 1;", 4, 5);
    }

    private static void windsAndHours() {
        for (char letter = 'a'; letter <= 'z'; letter++) {
            String wind = "wind 2 " + letter + " 3;";
            if ("nesw".indexOf(letter) >= 0) {
                good(wind, 1);
            } else {
                Due.mapFault(wind, 2, 7);
            }
        }
        Due.mapFault("wind 2 nn 3;", 2, 7);
        Due.mapFault("wind 2 ne 3;", 2, 7);
        for (int hour = 0; hour < 6; hour++) {
            good("wind " + hour + " n 3;top " + hour + " 3;", 2);
        }
    }

    /** "STEPS from .. to (0 .. 36; that not; the second above the first)". */
    private static void wallSteps() {
        for (int from = 0; from <= 37; from++) {
            for (int to = 0; to <= 37; to++) {
                String wall = "wall 1 2 above 3 from " + from + " to " + to + ";";
                if (from > 36) {
                    Due.mapFault(wall, 4, 22);
                } else if (to <= from || to > 36) {
                    Due.mapFault(wall, 4, wall.indexOf("to") + 3);
                } else {
                    good(wall, 1);
                }
            }
        }
    }

    private static List<Integer> starts(String line) {
        List<Integer> starts = new ArrayList<>();
        for (int i = 0; i < line.length(); i++) {
            if (line.charAt(i) != ' ' && (i == 0 || line.charAt(i - 1) == ' ')) {
                starts.add(i);
            }
        }
        return starts;
    }

    /** "the end: the text's length": each line cut short ahead of each of its TOKENS. */
    private static void cutShort() {
        for (String line : LINES) {
            good(line, 1);
            for (int start : starts(line)) {
                if (start > 0) {
                    Due.mapFault(line.substring(0, start), 2, start);
                    Due.mapFault(line.substring(0, start) + "\n  ", 2, start + 3);
                    Due.mapFault("top 0 1;" + line.substring(0, start - 1), 2, 8 + start - 1);
                }
            }
        }
    }

    /** "1 no TOKEN; 2 one that can't stand there": each TOKEN of each line made another one. */
    private static void strangers() {
        for (String line : LINES) {
            List<Integer> starts = starts(line);
            for (int i = 0; i < starts.size(); i++) {
                int start = starts.get(i);
                int end = line.indexOf(' ', start) < 0 ? line.length() : line.indexOf(' ', start);
                String head = line.substring(0, start);
                String tail = line.substring(end);
                Due.mapFault(head + "?" + tail, 1, start);
                Due.mapFault(head + "(" + tail, 2, start);
                Due.mapFault(head + "score" + tail, strangeWord(line, i) ? 4 : 2, start);
                boolean number = Character.isDigit(line.charAt(start));
                if (!number) {
                    Due.mapFault(head + "1" + tail, 2, start);
                }
                if (i > 0) {
                    Due.mapFault(head + ";" + tail + ";", 2, line.charAt(start) == ';' ? line.length() : start);
                }
            }
        }
    }

    /** Each TOKEN of each line left out, or told twice, or two of them changed about. */
    private static void leftOutOrDoubled() {
        for (String line : LINES) {
            String[] tokens = line.split(" ");
            Pair pair = new Pair("spoilt " + line);
            for (int i = 0; i < tokens.length; i++) {
                StringBuilder without = new StringBuilder();
                StringBuilder twice = new StringBuilder();
                StringBuilder about = new StringBuilder();
                for (int j = 0; j < tokens.length; j++) {
                    without.append(j == i ? "" : tokens[j]).append(' ');
                    twice.append(j == i ? tokens[j] + " " : "").append(tokens[j]).append(' ');
                    about.append(tokens[j == i && i + 1 < tokens.length ? i + 1 : j == i + 1 ? i : j]).append(' ');
                }
                for (Object text : new Object[] {without, twice, about}) {
                    pair.text(text.toString());
                    pair.map();
                    pair.fault(0);
                    pair.fault(1);
                }
            }
            Due.is("not too many calls", pair.left() >= 0, true);
        }
        Due.mapFault("glider g handicap 100;", 2, 9);
        Due.mapFault("glider sink 1 1 1 1 handicap 100;", 2, 7);
        Due.mapFault("glider g sink 1 1 1 1;", 2, 21);
    }

    /** Where any word is a WORD, though one that can't be. */
    private static boolean strangeWord(String line, int token) {
        return line.startsWith("row") && token == 2 || line.startsWith("lift") && token == 1;
    }

    /** "3 what is told already (row, wind, top at the N; lift at its WORD; field at its second N; a NAME)". */
    private static void toldTwice() {
        for (int y = 0; y < 8; y++) {
            String rows = "row " + y + " aaaaaaaa;row " + (y + 1) % 8 + " aaaaaaaa;";
            good(rows, 2);
            Due.mapFault(rows + "row " + y + " aaaaaaaa;", 3, rows.length() + 4);
            Due.mapFault(rows + "row 00" + y + " ?", 3, rows.length() + 4);
        }
        for (char ground = 'a'; ground <= 'h'; ground++) {
            String lifts = "lift " + ground + " 0 0 0 0 0 0;lift " + (ground == 'a' ? 'b' : 'a') + " 0 0 0 0 0 0;";
            good(lifts, 2);
            Due.mapFault(lifts + "lift " + ground + " 0 0 0 0 0 0;", 3, lifts.length() + 5);
        }
        for (int hour = 0; hour < 6; hour++) {
            String told = "wind " + hour + " n 0;top " + hour + " 40;";
            good(told, 2);
            Due.mapFault(told + "wind " + hour + " s 1;", 3, told.length() + 5);
            Due.mapFault(told + "top " + hour + " 1;", 3, told.length() + 4);
            String next = (hour + 1) % 6 + "";
            good(told + "wind " + next + " n 0;top " + next + " 40;", 4);
        }
        for (int cell = 0; cell < 64; cell++) {
            String field = "field " + cell % 8 + " " + cell / 8 + ";";
            Due.mapFault(field + field, 3, 18);
            good(field + "field " + (cell + 1) % 8 + " " + cell / 8 + ";field " + cell % 8 + " " + (cell / 8 + 1) % 8 + ";", 3);
        }
        Due.mapFault(GLIDER + GLIDER.replace("1 1 1 1", "2 2 2 2"), 3, GLIDER.length() + 7);
        Due.mapFault(GLIDER + "glider h sink 1 1 1 1 handicap 100;" + GLIDER, 3, 2 * GLIDER.length() + 7);
        good(GLIDER + GLIDER.replace("glider g", "glider gg") + GLIDER.replace("glider g", "glider ggg"), 3);
        good("wall 1 2 above 3 from 4 to 5;wall 1 2 above 3 from 4 to 5;road 1 2 3 4 5;road 1 2 3 4 5;", 4);
    }

    /** "at most 12 walls, 20 roads, 4 gliders", "(a 13th wall, 21st road, 5th glider: at its first word)". */
    private static void atMost() {
        String wall = "wall 1 2 above 3 from 4 to 5;";
        String road = "road 1 2 3 4 5;";
        for (int count = 11; count <= 14; count++) {
            limit(wall, count, 12);
        }
        for (int count = 19; count <= 22; count++) {
            limit(road, count, 20);
        }
        StringBuilder gliders = new StringBuilder();
        for (char name = 'a'; name <= 'd'; name++) {
            gliders.append(GLIDER.replace("glider g", "glider " + name));
            good(gliders.toString(), name - 'a' + 1);
        }
        for (String fifth : new String[] {"glider", "glider e sink 1 1 1 1 handicap 100;", "glider a", "glider ?", "glider 1"}) {
            Due.mapFault(gliders + fifth, 2, gliders.length());
        }
        Due.mapFault(wall.repeat(12) + " wall?", 2, 12 * wall.length() + 1);
        Due.mapFault(wall.repeat(12) + "walls", 2, 12 * wall.length());
        good(wall.repeat(12) + road.repeat(20) + gliders + "top 0 1;", 37);
    }

    private static void limit(String line, int count, int most) {
        if (count <= most) {
            good(line.repeat(count), count);
        } else {
            Due.mapFault(line.repeat(count), 2, most * line.length());
        }
    }

    /** "FAULTS, the first by its place". */
    private static void theFirstByItsPlace() {
        Due.mapFault("top 9 ?", 4, 4);
        Due.mapFault("top 0 1; top 0 ?", 3, 13);
        Due.mapFault("road 1 1 1 1 ?", 5, 11);
        Due.mapFault("road 1 1 1 9 ?", 4, 11);
        Due.mapFault("( ?", 2, 0);
        Due.mapFault("? (", 1, 0);
        Due.mapFault("row 0 aaaaaaai ?", 4, 6);
        Due.mapFault("glider g sink 31 1 1 1 handicap 1;", 4, 14);
        Due.mapFault("wall 8 8 above 41 from 37 to 37;", 4, 5);
        Due.mapFault("field 1 1;field 1 1?", 3, 18);
        Due.mapFault("field 1 1;field 8 1", 4, 16);
        Due.mapFault("top 0 1;top 0 99;top", 3, 12);
    }

    /** "at one place the least". */
    private static void theLeastAtOnePlace() {
        Due.mapFault("top 9a", 1, 4);
        Due.mapFault("top 0 1;top 0a", 1, 12);
        Due.mapFault("field 1 1;field 1 1a", 1, 18);
        Due.mapFault("road 1 1 1 1a", 1, 11);
        Due.mapFault("row 0 12345", 1, 6);
        Due.mapFault("12345", 1, 0);
        Due.mapFault("abcdefghi", 1, 0);
        Due.mapFault("row 0 iiiiiiiii;", 1, 6);
    }

    /** "5 the second CELL of a road like the first: at its second N". */
    private static void roads() {
        for (int cell = 0; cell < 64; cell++) {
            String cells = cell % 8 + " " + cell / 8;
            Due.mapFault("road " + cells + " " + cells + " 5;", 5, 11);
            good("road " + cells + " " + (cell % 8 + 1) % 8 + " " + cell / 8 + " 5;", 1);
            good("road " + cells + " " + cell % 8 + " " + (cell / 8 + 1) % 8 + " 5;", 1);
        }
        Due.mapFault("road 01 001 0001 1 5;", 5, 17);
        good("road 1 2 2 1 5;", 1);
    }
}
