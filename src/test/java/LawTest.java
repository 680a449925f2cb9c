import java.util.Random;

/** Promises 5, 6, 26 and 27: laws, their faults, scores and ranks. */
public final class LawTest {
    private static final String MAP = "glider a sink 1 1 1 1 handicap 120; glider b sink 1 1 1 1 handicap 80;"
        + "wall 2 0 above 3 from 0 to 9; wall 2 0 above 2 from 0 to 9; wall 5 5 above 0 from 0 to 36;";
    private static final String[] NAMES = {"done", "legs", "time", "handicap", "best", "first", "walls", "rounded"};
    // What the first pilot of day() has of these.
    private static final int[] VALUES = {5, 7, 0, 120, 7, 12, 2, 1};

    public static void main(String[] args) {
        values();
        faults();
        limits();
        ranks();
        Random random = new Random(33);
        SoarHouse house = day();
        for (int i = 0; i < 2000; i++) {
            if (i % 40 == 0) {
                house = day();
            }
            randomLaw(house, random);
        }
        Due.close();
    }

    private static SoarHouse day() {
        SoarHouse house = Due.on(MAP);
        house.task(4, -1, -1, 1);
        house.pilot(0);
        house.pilot(1);
        house.pilot(1);
        house.fix(0, 1, 0, 40);
        house.fix(0, 3, 2, 4);
        house.fix(0, 5, 4, 4);
        house.fix(0, 9, 3, 4);
        house.fix(1, 2, 0, 40);
        house.fix(1, 6, 4, 40);
        house.fix(1, 14, 1, 40);
        return house;
    }

    private static void value(String e, int want) {
        SoarHouse house = day();
        Due.is("law " + e, Due.law(house, "score " + e + ";"), 1);
        Due.is("score by " + e, house.score(0, 0), want);
    }

    private static void values() {
        for (int i = 0; i < NAMES.length; i++) {
            value(NAMES[i], VALUES[i]);
        }
        value("1 + 2 * 3", 7);
        value("(1+2)*3", 9);
        value("9 - 2 - 3", 4);
        value("7 / 2 / 2", 1);
        value("7 / 0", 0);
        value("10 + (0 - 7) / 2", 7);
        value("1 - 2", 0);
        value("9999 * 9999 * 9999", (int) (9999L * 9999 * 9999) < 0 ? 0 : (int) (9999L * 9999 * 9999));
        value("3 < 4", 1);
        value("4 < 4", 0);
        value("5 > 4", 1);
        value("4 = 4", 1);
        value("7 and 8", 1);
        value("7 and 0", 0);
        value("0 or 8", 1);
        value("0 or 0", 0);
        value("not 3", 0);
        value("not 0", 1);
        value("not 1 = 2", 1);
        value("not not 5", 1);
        value("1 or 0 and 0", 1);
        value("(0)and(1)or 1", 1);
        value("not 1 and 0", 0);
        value("2 * (3 > 1) + (not 0)", 3);
        value("0009", 9);
        value("( 0 - 5 ) < 3", 1);
        SoarHouse house = day();
        Due.is("without a law", house.score(0, 0), 0);
        Due.law(house, "score time * 100 + rounded;");
        Due.is("of the second", house.score(1, 0), 1202);
        Due.is("of the third", house.score(2, 0), 0);
        Due.is("ahead of the fixes", house.score(1, -1), 0);
        Due.is("no such pilot", house.score(3, 0), -1);
        Due.is("pilot -1", house.score(-1, 0), -1);
        Due.law(house, "score first * 100 + best;");
        Due.is("first and best", house.score(2, 0), 1207);
        Due.is("first and best of nothing", house.score(2, -1), 0);
        house.task(-1, -1, -1, 1);
        house.fix(2, 30, 1, 0);
        Due.is("rounded by its only fix", house.rounded(2, false, 0), 1);
        Due.is("first is 0 then", house.score(1, 0), 1);
    }

    private static void faults() {
        Due.lawFault("", 2, 0);
        Due.lawFault("  ", 2, 2);
        Due.lawFault("1;", 2, 0);
        Due.lawFault("score", 2, 5);
        Due.lawFault("score ;", 2, 6);
        Due.lawFault("score 1", 2, 7);
        Due.lawFault("score 1;;", 2, 8);
        Due.lawFault("score 1; score 1;", 2, 9);
        Due.lawFault("score 1; ?", 1, 9);
        Due.lawFault("score 1 2;", 2, 8);
        Due.lawFault("score (1;", 2, 8);
        Due.lawFault("score 1);", 2, 7);
        Due.lawFault("score ();", 2, 7);
        Due.lawFault("score 1 < 2 < 3;", 2, 12);
        Due.lawFault("score 1 + not 1;", 2, 10);
        Due.lawFault("score 1 < not 1;", 2, 10);
        Due.lawFault("score - 1;", 2, 6);
        Due.lawFault("score glider;", 2, 6);
        Due.lawFault("score score;", 2, 6);
        Due.lawFault("score abc;", 2, 6);
        Due.lawFault("score and;", 2, 6);
        Due.lawFault("score 1 or;", 2, 10);
        Due.lawFault("score 1 and or 1;", 2, 12);
        Due.lawFault("score 1 % 2;", 1, 8);
        Due.lawFault("score 1or 2;", 1, 6);
        Due.lawFault("score 12345;", 1, 6);
        Due.lawFault("score handicaps;", 1, 6);
        Due.lawFault("Score 1;", 1, 0);
    }

    private static void limits() {
        String sixty = "score 1" + "+1".repeat(59);
        SoarHouse house = day();
        Due.is("sixty units", Due.law(house, sixty + ";"), 1);
        Due.is("their sum", house.score(0, 0), 60);
        Due.lawFault(sixty + "+1;", 2, sixty.length() + 1);
        Due.lawFault(sixty + "+?;", 1, sixty.length() + 1);
        Due.lawFault(sixty + "+(1);", 2, sixty.length() + 1);
        Due.is("brackets are units", Due.law(house, "score (1)" + "+1".repeat(58) + ";"), 1);
        Due.lawFault("score (1)" + "+1".repeat(59) + ";", 2, 9 + 117);
        Due.lawFault("score 1" + " or 1".repeat(60) + ";", 2, 7 + 59 * 5 + 4);
        Due.lawFault("score 1" + " and 1".repeat(60) + ";", 2, 7 + 59 * 6 + 5);
        Due.lawFault("score 1" + " * 1".repeat(60) + ";", 2, 7 + 59 * 4 + 3);
        Due.is("seven brackets", Due.law(house, "score " + "(".repeat(7) + "7" + ")".repeat(7) + ";"), 1);
        Due.is("their value", house.score(0, 0), 7);
        Due.lawFault("score " + "(".repeat(8) + "7" + ")".repeat(8) + ";", 2, 13);
        Due.is("seven nots", Due.law(house, "score " + "not ".repeat(7) + "7;"), 1);
        Due.is("their value", house.score(0, 0), 0);
        Due.lawFault("score " + "not ".repeat(8) + "7;", 2, 6 + 28);
        Due.is("seven of both", Due.law(house, "score not(not(not(not 7)));"), 1);
        Due.is("their value", house.score(0, 0), 1);
        Due.lawFault("score not(not(not(not(7))));", 2, 21);
        Due.lawFault("score (not(not(not(not 7))));", 2, 19);
        Due.is("one beside the other", Due.law(house, "score " + "(not 0)+".repeat(20) + "(((((((1)))))));"), 1);
        Due.is("their value", house.score(0, 0), 21);
        Due.is("sixty with many nots", Due.law(house, "score 1" + " and not 0".repeat(49) + ";"), 1);
        Due.is("their value", house.score(0, 0), 1);
    }

    private static void ranks() {
        SoarHouse house = day();
        Due.is("all alike without a law", house.rank(2, 0), 1);
        Due.law(house, "score done;");
        Due.is("first", house.rank(1, 0), 1);
        Due.is("second", house.rank(0, 0), 2);
        Due.is("third", house.rank(2, 0), 3);
        Due.is("alike ahead of the fixes", house.rank(2, -1), 1);
        Due.is("no such pilot", house.rank(3, 0), -1);
        Due.is("pilot -1", house.rank(-1, 0), -1);
        house.pilot(0);
        Due.is("two alike", house.rank(3, 0), 3);
        Due.law(house, "score 5 - done;");
        Due.is("below 0 is 0", house.rank(0, 0), 3);
        Due.is("below 0 is 0", house.rank(1, 0), 3);
        SoarHouse none = Due.on(MAP);
        none.pilot(0);
        Due.is("score without a task", none.score(0, 0), -1);
        Due.is("rank without a task", none.rank(0, 0), -1);
    }

    private static int units;

    /** A random law, its value worked out while it is written. */
    private static void randomLaw(SoarHouse house, Random random) {
        StringBuilder text = new StringBuilder("score ");
        units = 0;
        int value = either(text, random, 0);
        text.append(';');
        int want = Math.max(0, value);
        if (text.length() > 500 || units > 60) {
            return;
        }
        Due.is("law " + text, Due.law(house, text.toString()), 1);
        Due.is("score by " + text, house.score(0, 0), want);
    }

    private static String gap(Random random) {
        return random.nextInt(4) == 0 ? "\n " : " ";
    }

    private static int either(StringBuilder text, Random random, int depth) {
        int value = both(text, random, depth);
        while (random.nextInt(5) == 0) {
            text.append(gap(random)).append("or").append(gap(random));
            int other = both(text, random, depth);
            value = value != 0 || other != 0 ? 1 : 0;
        }
        return value;
    }

    private static int both(StringBuilder text, Random random, int depth) {
        int value = one(text, random, depth);
        while (random.nextInt(5) == 0) {
            text.append(gap(random)).append("and").append(gap(random));
            int other = one(text, random, depth);
            value = value != 0 && other != 0 ? 1 : 0;
        }
        return value;
    }

    private static int one(StringBuilder text, Random random, int depth) {
        if (depth < 7 && random.nextInt(6) == 0) {
            text.append("not").append(gap(random));
            return one(text, random, depth + 1) == 0 ? 1 : 0;
        }
        int value = sum(text, random, depth);
        if (random.nextInt(4) == 0) {
            char sign = "<>=".charAt(random.nextInt(3));
            text.append(sign);
            int other = sum(text, random, depth);
            boolean holds = sign == '<' ? value < other : sign == '>' ? value > other : value == other;
            value = holds ? 1 : 0;
        }
        return value;
    }

    private static int sum(StringBuilder text, Random random, int depth) {
        int value = term(text, random, depth);
        while (random.nextInt(3) == 0) {
            boolean plus = random.nextBoolean();
            text.append(plus ? '+' : '-');
            int other = term(text, random, depth);
            value = plus ? value + other : value - other;
        }
        return value;
    }

    private static int term(StringBuilder text, Random random, int depth) {
        int value = unit(text, random, depth);
        while (random.nextInt(3) == 0) {
            boolean times = random.nextBoolean();
            text.append(times ? "*" : gap(random) + "/");
            int other = unit(text, random, depth);
            value = times ? value * other : other == 0 ? 0 : value / other;
        }
        return value;
    }

    private static int unit(StringBuilder text, Random random, int depth) {
        units++;
        int kind = random.nextInt(depth < 7 ? 5 : 4);
        if (kind == 4) {
            text.append('(');
            int value = either(text, random, depth + 1);
            text.append(')');
            return value;
        }
        if (kind < 2) {
            int number = random.nextInt(random.nextBoolean() ? 4 : 10000);
            text.append(number);
            return number;
        }
        int name = random.nextInt(NAMES.length);
        text.append(NAMES[name]);
        return VALUES[name];
    }
}
