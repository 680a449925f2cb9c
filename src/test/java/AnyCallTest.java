import java.util.Random;

/** LANGUAGE.md, rule 7: no call throws or fails to end; the same calls give the same answers. */
public final class AnyCallTest {
    private static final int[] EDGES = {Integer.MIN_VALUE, Integer.MAX_VALUE, -2, -1, 0, 1, 2, 3, 5, 7, 9, 35, 36, 37,
        40, 41, 63, 64, 65, 99, 100, 1000, 1001, 1900, 1901, 100000, 0x20202020};
    private static final String[] PARTS = {"row ", "lift ", "wind ", "top ", "wall ", "above ", "from ", "to ", "field ",
        "road ", "glider ", "sink ", "handicap ", "score ", "and ", "or ", "not ", "done ", "legs ", "time ", "best ",
        "first ", "walls ", "rounded ", "a ", "n ", "abcdefgh ", "aaaaaaaaa ", "0 ", "1 ", "7 ", "40 ", "100 ", "12345 ",
        ";", "(", ")", "<", ">", "=", "+", "-", "*", "/", "?", "1a ", "\u00ff", "\n"};
    private static final String[] WHOLE = {"row 0 abcdefgh;", "lift a 9 8 7 6 5 4;", "lift b 20 20 20 20 20 20;",
        "wind 0 n 3;", "wind 3 e 1;", "top 2 12;", "wall 1 1 above 3 from 0 to 36;", "wall 4 4 above 0 from 3 to 9;",
        "field 1 1;", "field 2 2;", "road 0 0 1 1 9;", "road 1 1 2 2 99;", "glider a sink 1 1 2 3 handicap 100;",
        "glider b sink 0 0 0 0 handicap 50;", "glider c sink 30 30 30 30 handicap 200;"};

    public static void main(String[] args) {
        for (int seed = 0; seed < 120; seed++) {
            Due.is("the same answers, seed " + seed, run(seed), run(seed));
        }
        Due.close();
    }

    private static int number(Random random) {
        switch (random.nextInt(4)) {
            case 0: return EDGES[random.nextInt(EDGES.length)];
            case 1: return random.nextInt(4);
            case 2: return random.nextInt(40);
            default: return random.nextInt(10) == 0 ? random.nextInt() : random.nextInt(64);
        }
    }

    private static long run(int seed) {
        Random random = new Random(seed);
        SoarHouse house = new SoarHouse();
        long sum = 0;
        for (int i = 0; i < 512; i++) {
            sum = 31 * sum + call(house, random, i < 10 ? 40 : random.nextInt(41));
        }
        return sum;
    }

    private static long text(SoarHouse house, Random random) {
        StringBuilder text = new StringBuilder();
        int kind = random.nextInt(4);
        if (kind == 0) {
            for (int i = random.nextInt(20); i > 0; i--) {
                text.append(PARTS[random.nextInt(PARTS.length)]);
            }
        } else if (kind == 1) {
            text.append("score done*").append(random.nextInt(100)).append("+ not (time < first or walls);");
        } else {
            for (String line : WHOLE) {
                text.append(random.nextInt(5) == 0 ? "" : line);
            }
            if (random.nextInt(4) == 0) {
                text.deleteCharAt(random.nextInt(Math.max(1, text.length() - 1)));
            }
        }
        house.end(0);
        Due.feed(house, text.toString());
        return kind == 1 ? house.law() : house.map();
    }

    private static long call(SoarHouse house, Random random, int which) {
        int a = number(random);
        int b = number(random);
        int c = number(random);
        int d = number(random);
        int e = number(random);
        int f = number(random);
        boolean yes = random.nextBoolean();
        switch (which) {
            case 0: return house.feed(a, b, c, d, e);
            case 1: return house.end(a);
            case 2: return random.nextInt(20) == 0 ? house.map() : 0;
            case 3: return house.law();
            case 4: return house.fault(a);
            case 5: return house.lift(a, b);
            case 6: return house.wind(a);
            case 7: return house.top(a);
            case 8: return house.shut(a, b, c);
            case 9: return house.move(a, b, c, d, e);
            case 10: return house.task(a, b, c, d) ? 1 : 0;
            case 11: return house.soonest(a, b, c, d, e);
            case 12: return house.way(a, b, c, d, e, f);
            case 13: return house.safe(a, b, c, d);
            case 14: return house.field(a, b, c) ? 1 : 0;
            case 15: return house.launch(yes, a);
            case 16: return house.launched(a, b);
            case 17: return house.pilot(a);
            case 18: return house.fix(a, b, c, d);
            case 19: return house.untell(a) ? 1 : 0;
            case 20: return house.later(a);
            case 21: return house.zone(a) ? 1 : 0;
            case 22: return house.rounded(a, yes, b);
            case 23: return house.flown(a, b, c);
            case 24: return house.score(a, b);
            case 25: return house.rank(a, b);
            case 26: return house.out(a);
            case 27: return house.fetched();
            case 28: return house.minutes(a, b);
            case 29: return house.home(a, b);
            case 30: return house.trailer(a, b, c);
            case 31: return house.about(a);
            case 32: return house.fix(a & 3, b, c, d);
            case 33: return house.soonest(a & 3, b & 63, c & 15, d & 31, e & 7);
            case 34: return house.safe(a & 3, b & 63, c & 31, d & 31);
            case 35: return house.task(a & 63, -1, -1, d & 63) ? 1 : 0;
            case 36: return house.flown(a & 3, b & 7, c);
            case 37: return house.rank(a & 3, b);
            case 38: return house.home(a & 63, b & 3);
            case 39: return house.pilot(a & 3);
            default: return random.nextInt(6) == 0 ? text(house, random) : 0;
        }
    }
}
