import java.util.Random;

/** Every promise: whole runs of up to 512 calls by chance, beside the document worked out plainly. */
public final class PlainRunsTest {
    private static final int[] EDGES = {Integer.MIN_VALUE, Integer.MAX_VALUE, -2, -1, 0, 1, 2, 3, 4, 5, 6, 7, 8, 9, 10, 11,
        12, 24, 25, 29, 30, 31, 35, 36, 37, 40, 41, 63, 64, 199, 200, 1000, 1001, 1900, 1901, 100000, 100001};

    private final Random random;
    private final RandomTexts texts;
    private final Pair pair;
    private int[] asked = {0, 0, 0, 0, 0};

    private PlainRunsTest(int seed) {
        random = new Random(seed);
        texts = new RandomTexts(random);
        pair = new Pair("run " + seed);
    }

    public static void main(String[] args) {
        for (int seed = 0; seed < 200; seed++) {
            new PlainRunsTest(seed).run(seed % 10);
        }
        for (int seed = 1000; seed < 1100; seed++) {
            new PlainRunsTest(seed).texts();
        }
        Due.close();
    }

    /** A number that is mostly below a bound, now and then at an edge. */
    private int num(int bound) {
        int kind = random.nextInt(40);
        if (kind == 0) {
            return EDGES[random.nextInt(EDGES.length)];
        }
        return kind == 1 ? bound : kind == 2 ? -1 : random.nextInt(bound);
    }

    private void run(int kind) {
        pair.about(0);
        if (kind != 0) {
            pair.text(texts.map());
            pair.map();
            someCalls(15, 2);
        }
        int pilots = kind == 9 ? 9 : random.nextInt(5);
        for (int i = 0; i < pilots; i++) {
            pair.pilot(num(2));
        }
        if (kind != 8) {
            randomTask();
        }
        while (pair.left() > 120) {
            if (random.nextInt(60) == 0) {
                randomText();
            } else {
                someCalls(1, 40);
            }
        }
        while (pair.left() > 0) {
            someCalls(1, 40);
        }
    }

    private void someCalls(int count, int kinds) {
        for (int i = 0; i < count; i++) {
            if (kinds == 2) {
                air(random.nextInt(6));
            } else {
                call(random.nextInt(kinds));
            }
        }
    }

    /** One text behind another, good ones and spoilt ones, and their faults. */
    private void texts() {
        while (pair.left() > 120) {
            randomText();
        }
    }

    private void randomText() {
        boolean law = random.nextInt(3) > 0;
        String text = law ? texts.law() : texts.map();
        for (int i = random.nextInt(3); i > 0; i--) {
            text = texts.spoilt(text);
        }
        if (text.length() <= 1900) {
            pair.text(text);
            int ok = law == (random.nextInt(10) > 0) ? pair.law() : pair.map();
            pair.fault(0);
            pair.fault(1);
            if (ok == -2) {
                pair.end(0);
            }
        }
    }

    private void randomTask() {
        int turns = random.nextInt(4);
        int near = random.nextBoolean() ? 64 : 12;
        pair.task(turns > 0 ? num(near) : -1, turns > 1 ? num(near) : -1, turns > 2 ? num(near) : -1, num(near));
    }

    private void call(int which) {
        if (which < 6) {
            air(which);
        } else if (which < 10) {
            flight(which);
        } else if (which < 14) {
            launches(which);
        } else if (which < 26) {
            traces(which);
        } else {
            rest(which);
        }
    }

    private void air(int which) {
        switch (which) {
            case 0: pair.lift(num(64), num(6)); break;
            case 1: pair.wind(num(6)); break;
            case 2: pair.top(num(6)); break;
            case 3: pair.shut(num(random.nextBoolean() ? 64 : 19), num(37), num(41)); break;
            default: pair.move(num(2), num(64), num(37), num(41), num(25)); break;
        }
    }

    private void flight(int which) {
        if (which == 6 && random.nextInt(3) == 0) {
            randomTask();
        } else if (which == 7 && random.nextInt(3) == 0) {
            asked = new int[] {num(2), num(64), random.nextBoolean() ? num(37) : num(4), num(41), num(random.nextBoolean() ? 41 : 3)};
            pair.soonest(asked[0], asked[1], asked[2], asked[3], asked[4]);
        } else if (which == 8 && random.nextInt(3) == 0) {
            pair.way(asked[0], asked[1], asked[2], asked[3], asked[4], num(6));
        } else if (which == 9 && random.nextInt(2) == 0) {
            pair.safe(num(2), num(64), num(37), num(random.nextBoolean() ? 41 : 5));
        }
    }

    private void launches(int which) {
        if (which == 10 && random.nextInt(4) == 0) {
            pair.field(1 + num(9), 1 + num(4), 1 + num(9));
        } else if (which == 11) {
            pair.launched(num(random.nextBoolean() ? 30 : 4), num(3));
        } else {
            pair.launch(random.nextInt(3) > 0, num(random.nextBoolean() ? 36 : 4));
        }
    }

    private int known() {
        return random.nextInt(10) == 0 ? num(2) - 1 : pair.about(6) - random.nextInt(3);
    }

    private void traces(int which) {
        int near = random.nextBoolean() ? 64 : 12;
        switch (which) {
            case 14: pair.pilot(num(3)); break;
            case 15: pair.untell(num(random.nextBoolean() ? 20 : 100)); break;
            case 16: pair.later(random.nextInt(20) == 0 ? num(1001) : num(3)); break;
            case 17: pair.zone(num(4)); break;
            case 18: pair.rounded(num(3), random.nextBoolean(), known()); break;
            case 19: pair.flown(num(3), num(6), known()); break;
            case 20: pair.score(num(3), known()); break;
            case 21: pair.rank(num(3), known()); break;
            default: pair.fix(num(3), num(36), num(near), num(41)); break;
        }
    }

    private void rest(int which) {
        switch (which) {
            case 26: case 27: pair.out(num(random.nextBoolean() ? 64 : 3)); break;
            case 28: if (random.nextInt(8) == 0) { pair.fetched(); } break;
            case 29: pair.minutes(num(20), num(20)); break;
            case 30: pair.home(num(20), 1 + num(3)); break;
            case 31: pair.trailer(num(20), 1 + num(3), num(9)); break;
            case 32: pair.about(num(12)); break;
            case 33: pair.fault(num(2)); break;
            case 34: pair.feed(random.nextInt(), 0x20202020, num(64), num(64), num(64)); break;
            case 35: pair.end(num(60)); break;
            case 36: pair.law(); break;
            case 37: if (random.nextInt(30) == 0) { pair.map(); } break;
            default: pair.flown(num(4), random.nextInt(6), known()); break;
        }
    }
}
