/** Promises 5, 26 and 27 and part 5 of the terms, sentence by sentence: laws, scores and ranks at their edges. */
public final class EdgeLawTest {
    private static final int[] FAR = {Integer.MIN_VALUE, -2, -1, Integer.MAX_VALUE};
    private static final String GLIDERS = "glider a sink 1 1 1 1 handicap 50; glider b sink 1 1 1 1 handicap 200;";
    private static final String[] ASKED = {"done", "legs", "time", "handicap", "best", "first", "walls", "rounded"};

    public static void main(String[] args) {
        cutShort();
        strangers();
        wordsOfMaps();
        numbers();
        noNotInASum();
        oneRelation();
        sixtyUnits();
        withinSixOthers();
        bothLimitsAtOnce();
        wrapping();
        cutTowards0();
        byZero();
        fromLeftToRight();
        relationsAre1Or0();
        ofWhatIsNot0();
        atLeast0();
        withoutALaw();
        oneLawBehindAnother();
        whatItAsks();
        bestAndFirst();
        asKnownAtK();
        ranks();
        noSuchPilotOrTask();
        Due.close();
    }

    private static SoarHouse alone() {
        SoarHouse house = Due.on(GLIDERS);
        house.pilot(0);
        house.task(-1, -1, -1, 9);
        return house;
    }

    private static void value(String e, int want) {
        SoarHouse house = alone();
        Due.is("law " + e, Due.law(house, "score " + e + ";"), 1);
        Due.is("fault of " + e, house.fault(0), 0);
        Due.is("place of " + e, house.fault(1), -1);
        Due.is("score by " + e, house.score(0, 0), want);
    }

    /** "the end: the text's length". */
    private static void cutShort() {
        String law = "score ( 1 + 2 * done ) < 7 and not legs or time = 3 / 4 - 5 > 6 ;";
        String whole = "score ( 1 + 2 * done ) < 7 and not legs or time = 3 / 4 - 5 ;";
        Due.is("whole", Due.law(new SoarHouse(), whole), 1);
        Due.lawFault(law, 2, law.indexOf('>'));
        for (int cut = 0; cut < whole.length(); cut++) {
            if (cut == 0 || whole.charAt(cut - 1) == ' ') {
                Due.lawFault(whole.substring(0, cut), 2, cut);
                Due.lawFault(whole.substring(0, cut) + "\n", 2, cut + 1);
            }
        }
        Due.lawFault(whole + " 1", 2, whole.length() + 1);
        Due.lawFault(whole + ";", 2, whole.length());
        Due.lawFault(whole + "?", 1, whole.length());
        Due.is("blanks behind it", Due.law(new SoarHouse(), whole + " \n "), 1);
        Due.is("blanks ahead of it", Due.law(new SoarHouse(), "\n " + whole), 1);
    }

    /** "FAULTS 1, 2": each TOKEN of a law made another one. */
    private static void strangers() {
        String whole = "score ( 1 + done ) < 7 and not legs or 3 / 4 ;";
        for (int start = 0; start < whole.length(); start++) {
            if (start == 0 || whole.charAt(start - 1) == ' ') {
                int end = whole.indexOf(' ', start) < 0 ? whole.length() : whole.indexOf(' ', start);
                String head = whole.substring(0, start);
                String tail = whole.substring(end);
                Due.lawFault(head + "?" + tail, 1, start);
                Due.lawFault(head + "9a" + tail, 1, start);
                Due.lawFault(head + "99999" + tail, 1, start);
                Due.lawFault(head + "handicapp" + tail, 1, start);
                if (start > 0) {
                    Due.lawFault(head + "score" + tail, 2, start);
                }
                Due.lawFault(head + "glider" + tail, 2, start);
                Due.lawFault(head + "name" + tail, 2, start);
            }
        }
    }

    private static void wordsOfMaps() {
        for (String word : "row lift wind top wall above from to field road glider sink score and or n e s w a".split(" ")) {
            Due.lawFault("score " + word + ";", 2, 6);
        }
        for (String word : ASKED) {
            Due.is("law of " + word, Due.law(new SoarHouse(), "score " + word + ";"), 1);
            Due.lawFault("score " + word.substring(0, word.length() - 1) + ";", 2, 6);
            Due.lawFault("score " + word + "e;", word.length() == 8 ? 1 : 2, 6);
        }
    }

    /** "N (1 to 4 digits)". */
    private static void numbers() {
        value("0", 0);
        value("9999", 9999);
        value("0000", 0);
        value("0010", 10);
        Due.lawFault("score 10000;", 1, 6);
        Due.lawFault("score 00000;", 1, 6);
        Due.lawFault("score 1 0;", 2, 8);
        value("1+1", 2);
        Due.lawFault("score 1and(2);", 1, 6);
        value("(1)and(2)", 1);
    }

    /** "one = not one | sum ..": a not stands at the begin of a one alone. */
    private static void noNotInASum() {
        Due.lawFault("score 1 + not 1;", 2, 10);
        Due.lawFault("score 1 * not 1;", 2, 10);
        Due.lawFault("score 1 < not 1;", 2, 10);
        Due.lawFault("score not;", 2, 9);
        Due.lawFault("score not not;", 2, 13);
        Due.lawFault("score 1 not 1;", 2, 8);
        value("not 0 and not 0", 1);
        value("1 + (not 1)", 1);
        value("not 2 - 2", 1);
        value("not 2 = 3", 1);
        value("(not 2) = 0", 1);
    }

    /** "sum [(< | > | =) sum]". */
    private static void oneRelation() {
        for (char first : "<>=".toCharArray()) {
            for (char second : "<>=".toCharArray()) {
                Due.lawFault("score 1 " + first + " 2 " + second + " 3;", 2, 12);
            }
        }
        value("(1 < 2) < 3", 1);
        value("3 > (2 > 1)", 1);
        Due.lawFault("score 1 < ;", 2, 10);
        Due.lawFault("score < 1;", 2, 6);
        Due.lawFault("score + 1;", 2, 6);
        Due.lawFault("score 1 + + 1;", 2, 10);
        Due.lawFault("score 1 <= 1;", 2, 9);
        Due.lawFault("score () ;", 2, 7);
        Due.lawFault("score (1 ;", 2, 9);
        Due.lawFault("score 1) ;", 2, 7);
        Due.lawFault("score (1)) ;", 2, 9);
    }

    /** "60 units", "(a 61st unit .. at its first TOKEN ..)". */
    private static void sixtyUnits() {
        for (String join : new String[] {"+", "-", "*", "/", " and ", " or "}) {
            String sixty = "score 1" + (join + "1").repeat(59);
            Due.is("sixty by" + join, Due.law(new SoarHouse(), sixty + ";"), sixty.length() < 500 ? 1 : -2);
            String more = sixty + join;
            Due.lawFault(more + "1;", 2, more.length());
            Due.lawFault(more + "done;", 2, more.length());
            Due.lawFault(more + "(1);", 2, more.length());
            Due.lawFault(more + "?;", 1, more.length());
            Due.lawFault(more + ";", 2, more.length());
        }
        String nine = "score 1" + "+1".repeat(58);
        Due.is("a bracket is a unit", Due.law(new SoarHouse(), nine + "+1;"), 1);
        Due.lawFault(nine + "+(1);", 2, nine.length() + 2);
        String relation = "score 1" + "+1".repeat(58) + "=";
        Due.is("the sixtieth behind a relation", Due.law(new SoarHouse(), relation + "1;"), 1);
        Due.lawFault(relation + "1+1;", 2, relation.length() + 2);
        String brackets = "score (1)" + "+(1)".repeat(29);
        Due.is("thirty brackets", Due.law(new SoarHouse(), brackets + ";"), 1);
        Due.lawFault(brackets + "+(1);", 2, brackets.length() + 1);
        Due.lawFault(brackets + "+1;", 2, brackets.length() + 1);
        Due.lawFault(brackets + "+not 1;", 2, brackets.length() + 1);
        Due.lawFault(brackets + " and not 1;", 2, brackets.length() + 9);
        SoarHouse house = alone();
        Due.law(house, "score 1" + "+1".repeat(59) + ";");
        Due.is("their sum", house.score(0, 0), 60);
        Due.law(house, "score " + "1-(".repeat(7) + "1" + "+1".repeat(45) + ")".repeat(7) + ";");
        Due.is("sixty, seven brackets deep", house.score(0, 0), 0);
        Due.is("and no fault", house.fault(0), 0);
    }

    /** "a unit ( e ), or a one behind not, within 6 others at most", "(.. at its first TOKEN, or the not)". */
    private static void withinSixOthers() {
        for (int nots = 0; nots < 256; nots++) {
            for (int depth = 7; depth <= 8; depth++) {
                StringBuilder law = new StringBuilder("score ");
                StringBuilder close = new StringBuilder();
                int place = 0;
                boolean value = true;
                for (int i = 0; i < depth; i++) {
                    place = law.length();
                    boolean not = (nots >> i & 1) == 1;
                    law.append(not ? "not " : "(");
                    close.append(not ? "" : ")");
                    value ^= not;
                }
                String text = law + "1" + close + ";";
                if (depth == 7) {
                    value(text.substring(6, text.length() - 1), value ? 1 : 0);
                } else {
                    Due.lawFault(text, 2, place);
                }
            }
        }
        value("(((((((1)))))))+(((((((2)))))))", 3);
        value("not not not not not not not 0 or not not not not not not not 1", 1);
        Due.lawFault("score (((((((1)))))))+((((((((2))))))));", 2, 29);
        Due.lawFault("score 1 and not not not not not not not not 1;", 2, 40);
        Due.lawFault("score (((((((1+(2))))))));", 2, 15);
        Due.lawFault("score (((((((1 and not 2)))))));", 2, 19);
        Due.lawFault("score (((((((?;", 1, 13);
        Due.lawFault("score " + "(".repeat(490), 2, 13);
        Due.lawFault("score " + "not ".repeat(120), 2, 34);
        value("((((((not 0))))))", 1);
        value("not (not (not (not 0)))", 0);
        Due.lawFault("score not (not (not (not (0))));", 2, 25);
    }

    /** Sixty units, the last seven of them within each other, leave no room for one within these. */
    private static void bothLimitsAtOnce() {
        String law = "score 1" + "+1".repeat(52) + "+(((((((";
        Due.lawFault(law + "1)))))));", 2, law.length());
        String less = "score 1" + "+1".repeat(51) + "+(((((((";
        Due.is("one less", Due.law(new SoarHouse(), less + "1)))))));"), 1);
        Due.lawFault(less + "(1))))))));", 2, less.length());
    }

    /** "Ints, wrapping". */
    private static void wrapping() {
        int cube = 9999 * 9999 * 9999;
        value("9999*9999*9999", Math.max(0, cube));
        value("9999*9999*9999<0", cube < 0 ? 1 : 0);
        value("8192*8192*32<0", 1);
        value("8192*8192*32-1", Integer.MAX_VALUE);
        value("8192*8192*32=0-8192*8192*32", 1);
        value("(8192*8192*32-1+1)<0", 1);
        value("(8192*8192*32)/(0-1)<0", 1);
        value("8192*8192*64", 0);
        value("4096*4096*128-1-(0-1)<0", 1);
    }

    /** "/ cut towards 0". */
    private static void cutTowards0() {
        value("7/2", 3);
        value("10+(0-7)/2", 7);
        value("10+7/(0-2)", 7);
        value("10+(0-7)/(0-2)", 13);
        value("10+(0-1)/2", 10);
        value("1/2", 0);
        value("9999/1", 9999);
        value("9999/9999", 1);
        value("9998/9999", 0);
    }

    /** "by 0: 0". */
    private static void byZero() {
        value("7/0", 0);
        value("0/0", 0);
        value("5+7/0", 5);
        value("5+7/(3-3)*9", 5);
        value("7/(1/2)+3", 3);
        value("(8192*8192*32)/0+1", 1);
        value("1/done+2", 2);
    }

    private static void fromLeftToRight() {
        value("10-4-3", 3);
        value("10-(4-3)", 9);
        value("100/10/5", 2);
        value("100/(10/5)", 50);
        value("100/10*5", 50);
        value("2+3*4", 14);
        value("2*3+4", 10);
        value("20-2*3-4", 10);
        value("1+1<2*2", 1);
        value("2<1 or 1<2 and 3<4", 1);
        value("1 or 1 and 0", 1);
        value("(1 or 1) and 0", 0);
        value("0 and 0 or 1", 1);
        value("0 and (0 or 1)", 0);
    }

    /** "relations, and, or, not are 1 or 0". */
    private static void relationsAre1Or0() {
        int[] values = {0, 1, 2, 9};
        for (int a : values) {
            for (int b : values) {
                value(a + "<" + b, a < b ? 1 : 0);
                value(a + ">" + b, a > b ? 1 : 0);
                value(a + "=" + b, a == b ? 1 : 0);
                value(a + " and " + b, a != 0 && b != 0 ? 1 : 0);
                value(a + " or " + b, a != 0 || b != 0 ? 1 : 0);
                value("5+(" + a + "<" + b + ")", 5 + (a < b ? 1 : 0));
                value("5+(" + a + ">" + b + ")", 5 + (a > b ? 1 : 0));
                value("5+(" + a + "=" + b + ")", 5 + (a == b ? 1 : 0));
                value("5+(" + a + " and " + b + ")", 5 + (a != 0 && b != 0 ? 1 : 0));
                value("5+(" + a + " or " + b + ")", 5 + (a != 0 || b != 0 ? 1 : 0));
            }
            value("5+(not " + a + ")", 5 + (a == 0 ? 1 : 0));
            value("not " + a, a == 0 ? 1 : 0);
            value("(" + a + ")", a);
        }
        value("0-1<0", 1);
        value("0>0-1", 1);
        value("0-1=0-1", 1);
    }

    /** "of what is not 0": what is below 0 is that too. */
    private static void ofWhatIsNot0() {
        value("0-5 and 1", 1);
        value("0-5 or 0", 1);
        value("not 0-5", 0);
        value("not not 0-5", 1);
        value("2 and 4", 1);
        value("1 and 2 and 3", 1);
        value("0 or 0 or 7", 1);
    }

    /** "SCORE: e's value, 0 at least". */
    private static void atLeast0() {
        value("0-1", 0);
        value("0-9999*9999", 0);
        value("1-1", 0);
        value("2-1", 1);
        value("8192*8192*32", 0);
    }

    /** "(none at first)", "0 without a LAW". */
    private static void withoutALaw() {
        SoarHouse house = alone();
        house.pilot(1);
        house.fix(0, 3, 9, 0);
        Due.is("no law", house.about(11), 0);
        Due.is("score", house.score(0, 0), 0);
        Due.is("score", house.score(1, 0), 0);
        Due.is("rank", house.rank(0, 0), 1);
        Due.is("rank", house.rank(1, 0), 1);
        Due.is("a fault is no law", Due.law(house, "score 5"), -1);
        Due.is("score", house.score(0, 0), 0);
        Due.is("a law", Due.law(house, "score 5;"), 1);
        Due.is("score", house.score(0, 0), 5);
    }

    /** Nothing of LAWS ahead of it, taken or not, is left in a LAW. */
    private static void oneLawBehindAnother() {
        SoarHouse house = alone();
        String[] laws = {"1+2*3-4 and not 5 or 6", "7", "not 0", "8+1", "(9)", "1<2", "5", "5-1", "3*2*1"};
        int[] values = {1, 7, 1, 9, 9, 1, 5, 4, 6};
        for (int round = 0; round < 3; round++) {
            for (int i = 0; i < laws.length; i++) {
                Due.is("law " + laws[i], Due.law(house, "score " + laws[i] + ";"), 1);
                Due.is("score by " + laws[i], house.score(0, 0), values[i]);
                if (round == 1) {
                    Due.is("a longer one with a fault", Due.law(house, "score 2+2+2+2+2+2+2+2+2+2+2+2+2+2+2"), -1);
                    Due.is("score by " + laws[i] + " still", house.score(0, 0), values[i]);
                }
            }
        }
    }

    private static SoarHouse busy() {
        SoarHouse house = Due.on(GLIDERS + "wall 1 0 above 3 from 0 to 36; wall 1 0 above 5 from 0 to 36; wall 2 0 above 0 from 0 to 2;");
        house.task(3, -1, -1, 7);
        for (int i = 0; i < 4; i++) {
            house.pilot(i % 2);
        }
        house.fix(0, 1, 0, 0);
        house.fix(0, 4, 1, 6);
        house.fix(0, 6, 3, 6);
        house.fix(0, 8, 5, 6);
        house.fix(1, 0, 0, 0);
        house.fix(1, 11, 3, 0);
        house.fix(1, 30, 7, 0);
        house.fix(2, 5, 2, 0);
        house.fix(2, 9, 3, 0);
        house.fix(2, 29, 7, 0);
        return house;
    }

    /** "done, legs, time (0 if not all were ROUNDED), handicap, walls (entered for sure), rounded (least)". */
    private static void whatItAsks() {
        int[][] of = {{5, 7, 0, 50, 7, 24, 2, 1}, {7, 7, 30, 200, 7, 24, 0, 2}, {5, 5, 24, 50, 7, 24, 0, 2},
            {0, 0, 0, 200, 7, 24, 0, 0}};
        SoarHouse house = busy();
        for (int i = 0; i < ASKED.length; i++) {
            Due.is("law", Due.law(house, "score " + ASKED[i] + ";"), 1);
            for (int pilot = 0; pilot < 4; pilot++) {
                Due.is(ASKED[i] + " of " + pilot, house.score(pilot, 0), of[pilot][i]);
            }
        }
        Due.law(house, "score walls;");
        house.fix(0, 1, 2, 1);
        Due.is("three walls", house.score(0, 0), 3);
        house.zone(3);
        Due.law(house, "score rounded * 100 + time;");
        Due.is("by the zone", house.score(0, 0), 207);
    }

    /** "best: the greatest done of all pilots; first: the least time of those who ROUNDED all (0 without one)". */
    private static void bestAndFirst() {
        SoarHouse house = busy();
        Due.law(house, "score best * 100 + first;");
        Due.is("of all", house.score(3, 0), 724);
        house.untell(9);
        Due.is("without the second", house.score(3, 0), 730);
        house.untell(6);
        Due.is("without the first too", house.score(3, 0), 500);
        for (int i = 0; i < 10; i++) {
            house.untell(i);
        }
        Due.is("without fixes", house.score(3, 0), 0);
        house.fix(3, 20, 3, 0);
        Due.is("one point", house.score(3, 0), 0);
        house.fix(3, 20, 7, 0);
        house.fix(3, 19, 3, 0);
        Due.is("a first of one step", house.score(0, 0), 401);
        house.fix(2, 0, 7, 0);
        house.task(-1, -1, -1, 7);
        Due.is("a first of no steps", house.score(0, 0), 400);
    }

    /** "SCORE as known at k". */
    private static void asKnownAtK() {
        SoarHouse house = alone();
        house.pilot(1);
        Due.law(house, "score done + 10 * best + 100 * (first + 1) * rounded;");
        house.later(4);
        house.fix(0, 0, 0, 0);
        house.later(1);
        house.fix(1, 0, 0, 0);
        house.fix(1, 2, 9, 0);
        house.later(1);
        house.untell(2);
        int[] first = {0, 0, 10, 0};
        int[] second = {0, 0, 311, 0};
        for (int k = 3; k <= 6; k++) {
            Due.is("the first at " + k, house.score(0, k), first[k - 3]);
            Due.is("the second at " + k, house.score(1, k), second[k - 3]);
            Due.is("rank of the first at " + k, house.rank(0, k), k == 5 ? 2 : 1);
            Due.is("rank of the second at " + k, house.rank(1, k), 1);
        }
        Due.is("never", house.score(1, Integer.MIN_VALUE), 0);
        Due.is("at last", house.score(1, Integer.MAX_VALUE), 0);
    }

    /** "RANK: 1 and how many have more". */
    private static void ranks() {
        SoarHouse house = Due.on(GLIDERS);
        house.task(-1, -1, -1, 7);
        for (int i = 0; i < 8; i++) {
            house.pilot(0);
            house.fix(i, 0, 0, 0);
            house.fix(i, 1, new int[] {3, 7, 3, 0, 5, 7, 1, 3}[i], 0);
        }
        Due.law(house, "score done;");
        int[] want = {4, 1, 4, 8, 3, 1, 7, 4};
        for (int i = 0; i < 8; i++) {
            Due.is("rank of " + i, house.rank(i, 0), want[i]);
        }
        Due.law(house, "score 4 - done;");
        int[] turned = {3, 6, 3, 1, 6, 6, 2, 3};
        for (int i = 0; i < 8; i++) {
            Due.is("rank of " + i + ", by what is 0 at least", house.rank(i, 0), turned[i]);
        }
        Due.law(house, "score 1;");
        for (int i = 0; i < 8; i++) {
            Due.is("all alike", house.rank(i, 0), 1);
        }
        SoarHouse one = alone();
        Due.is("alone", one.rank(0, 0), 1);
    }

    /** "NONE likewise": no such pilot, or no TASK. */
    private static void noSuchPilotOrTask() {
        SoarHouse house = Due.on(GLIDERS);
        house.pilot(0);
        Due.law(house, "score 7;");
        Due.is("score without a task", house.score(0, 0), -1);
        Due.is("rank without a task", house.rank(0, 0), -1);
        house.task(-1, -1, -1, 0);
        Due.is("score", house.score(0, 0), 7);
        Due.is("rank", house.rank(0, 0), 1);
        for (int far : FAR) {
            Due.is("score of " + far, house.score(far, 0), -1);
            Due.is("rank of " + far, house.rank(far, 0), -1);
        }
        Due.is("score of 1", house.score(1, 0), -1);
        Due.is("rank of 1", house.rank(1, 0), -1);
        Due.map(house, GLIDERS);
        Due.is("no pilots by a new map", house.score(0, 0), -1);
        Due.is("nor ranks", house.rank(0, 0), -1);
    }
}
