import java.util.ArrayList;
import java.util.Arrays;
import java.util.List;
import java.util.Random;

/** Promises 12 to 15: tasks, the soonest way and what is safe, beside a plain search state by state. */
public final class WayTest {
    public static void main(String[] args) {
        tasks();
        smallWays();
        whatIsNone();
        safe();
        forgets();
        questionsAlike();
        Random random = new Random(20261118);
        for (int i = 0; i < 40; i++) {
            randomDay(random);
        }
        Due.close();
    }

    private static void tasks() {
        SoarHouse house = new SoarHouse();
        Due.is("no finish", house.task(1, 2, 3, -1), false);
        Due.is("finish 64", house.task(1, 2, 3, 64), false);
        Due.is("a gap", house.task(-1, 2, -1, 4), false);
        Due.is("a gap behind", house.task(1, -1, 3, 4), false);
        Due.is("two behind none", house.task(-1, -1, 3, 4), false);
        Due.is("turning point 64", house.task(1, 2, 64, 4), false);
        Due.is("turning point -2", house.task(1, 2, -2, 4), false);
        Due.is("turning point -2", house.task(-2, -1, -1, 4), false);
        Due.is("still none", house.about(10), 0);
        Due.is("three", house.task(1, 2, 3, 4), true);
        Due.is("there is one", house.about(10), 1);
        Due.is("all alike", house.task(5, 5, 5, 5), true);
        Due.is("none", house.task(-1, -1, -1, 63), true);
        Due.is("wrong again", house.task(-1, -1, -1, 64), false);
        Due.is("it stays", house.about(10), 1);
    }

    private static void smallWays() {
        SoarHouse house = Due.on("glider a sink 1 1 2 4 handicap 100; wall 3 0 above 0 from 0 to 36;");
        house.task(0, 0, 0, 0);
        Due.is("flown as it begins", house.soonest(0, 0, 9, 5, 5), 9);
        Due.is("no moves", house.way(0, 0, 9, 5, 5, 0), -1);
        Due.is("too low at the finish", house.soonest(0, 0, 9, 5, 6), -1);
        house.task(2, -1, -1, 2);
        Due.is("two cells on", house.soonest(0, 0, 0, 8, 0), 2);
        Due.is("the first", house.way(0, 0, 0, 8, 0, 0), 9);
        Due.is("a lower start", house.soonest(0, 0, 0, 6, 0), 3);
        Due.is("middling ahead of fast", house.way(0, 0, 0, 6, 0, 0), 8);
        Due.is("then fast", house.way(0, 0, 0, 6, 0, 1), 9);
        Due.is("no third", house.way(0, 0, 0, 6, 0, 2), -1);
        Due.is("no way -1", house.way(0, 0, 0, 6, 0, -1), -1);
        house.task(2, 0, 2, 0);
        Due.is("there and back twice", house.soonest(0, 0, 0, 40, 0), 8);
        Due.is("too late in the day", house.soonest(0, 0, 29, 40, 0), -1);
        Due.is("just in time", house.soonest(0, 0, 28, 40, 0), 36);
        house.task(2, 2, 1, 1);
        Due.is("several at once", house.soonest(0, 2, 0, 40, 0), 1);
        Due.is("all of them in order", house.way(0, 2, 0, 40, 0, 0), 21);
        house.task(-1, -1, -1, 4);
        Due.is("round the wall", house.soonest(0, 2, 0, 40, 0), 2);
        Due.is("by south-east, as north is no cell", house.way(0, 2, 0, 40, 0, 0), 12);
    }

    private static void whatIsNone() {
        SoarHouse house = Due.on("glider a sink 1 1 2 4 handicap 100; wall 3 0 above 4 from 2 to 9;");
        Due.is("without a task", house.soonest(0, 0, 0, 20, 0), -1);
        Due.is("without a task", house.way(0, 0, 0, 20, 0, 0), -1);
        house.task(-1, -1, -1, 1);
        int[][] wrong = {{1, 0, 0, 20, 0}, {-1, 0, 0, 20, 0}, {0, 64, 0, 20, 0}, {0, -1, 0, 20, 0}, {0, 0, 37, 20, 0},
            {0, 0, -1, 20, 0}, {0, 0, 0, 41, 0}, {0, 0, 0, -1, 0}, {0, 0, 0, 20, 41}, {0, 0, 0, 20, -1},
            {0, 3, 2, 5, 0}, {0, 3, 8, 40, 0}};
        for (int[] w : wrong) {
            Due.is("soonest " + Arrays.toString(w), house.soonest(w[0], w[1], w[2], w[3], w[4]), -1);
            Due.is("way " + Arrays.toString(w), house.way(w[0], w[1], w[2], w[3], w[4], 0), -1);
        }
        Due.is("soonest", house.soonest(0, 0, 0, 20, 0), 1);
        Due.is("beneath the wall", house.soonest(0, 3, 2, 4, 0), 6);
        Due.is("behind the wall", house.soonest(0, 3, 9, 40, 0), 11);
    }

    private static void safe() {
        SoarHouse house = Due.on("lift a 9 9 9 9 9 9; field 0 0; field 2 0; field 4 0; field 0 7; wall 1 0 above 3 from 0 to 5;"
            + "glider a sink 1 3 4 5 handicap 100;");
        Due.is("where it lies", house.safe(0, 0, 0, 0), 1);
        Due.is("at the end of the day", house.safe(0, 0, 36, 40), 1);
        Due.is("nowhere", house.safe(0, 63, 0, 0), 0);
        Due.is("one cell on", house.safe(0, 3, 0, 3), 2);
        Due.is("too low for it", house.safe(0, 3, 0, 2), 0);
        Due.is("all", house.safe(0, 0, 0, 40), 4);
        Due.is("shut where it begins", house.safe(0, 1, 0, 4), -1);
        Due.is("not shut for it", house.safe(0, 1, 0, 3), 2);
        Due.is("glider 1", house.safe(1, 0, 0, 0), -1);
        Due.is("cell 64", house.safe(0, 64, 0, 0), -1);
        Due.is("moment 37", house.safe(0, 0, 37, 0), -1);
        Due.is("height 41", house.safe(0, 0, 0, 41), -1);
        Due.is("height -1", house.safe(0, 0, 0, -1), -1);
        Due.is("an empty map", new SoarHouse().safe(0, 0, 0, 0), -1);
    }

    private static void forgets() {
        SoarHouse house = Due.on("glider a sink 1 1 2 4 handicap 100;");
        house.task(-1, -1, -1, 2);
        Due.is("by the first task", house.soonest(0, 0, 0, 40, 0), 2);
        house.task(-1, -1, -1, 3);
        Due.is("by the next task", house.soonest(0, 0, 0, 40, 0), 3);
        house.safe(0, 9, 9, 9);
        Due.is("behind safe", house.way(0, 0, 0, 40, 0, 2), 9);
        Due.map(house, "glider a sink 1 1 2 30 handicap 100;");
        Due.is("by the next map", house.soonest(0, 0, 0, 40, 0), 5);
    }

    /** One question behind another that differs from it in one number alone. */
    private static void questionsAlike() {
        String map = "lift a 4 1 4 1 4 1; wind 0 e 1; wind 1 w 1; glider a sink 1 1 2 4 handicap 100;"
            + "glider b sink 1 2 4 5 handicap 100;";
        int[] start = {0, 0, 3, 9, 5};
        int[] other = {1, 1, 5, 19, 15};
        for (int i = 0; i < start.length; i++) {
            int[] changed = start.clone();
            changed[i] = other[i];
            SoarHouse fresh = Due.on(map);
            fresh.task(3, -1, -1, 5);
            int due = fresh.soonest(changed[0], changed[1], changed[2], changed[3], changed[4]);
            SoarHouse house = Due.on(map);
            house.task(3, -1, -1, 5);
            int before = house.soonest(start[0], start[1], start[2], start[3], start[4]);
            Due.is("they differ " + i, before != due, true);
            Due.is("changed " + i, house.soonest(changed[0], changed[1], changed[2], changed[3], changed[4]), due);
            Due.is("back " + i, house.soonest(start[0], start[1], start[2], start[3], start[4]), before);
        }
    }

    private static String randomMap(Random random) {
        StringBuilder text = new StringBuilder();
        for (int y = 0; y < 8; y++) {
            if (random.nextInt(3) > 0) {
                text.append("row ").append(y).append(' ');
                for (int x = 0; x < 8; x++) {
                    text.append((char) ('a' + random.nextInt(4)));
                }
                text.append(';');
            }
        }
        for (char ground = 'a'; ground < 'e'; ground++) {
            text.append("lift ").append(ground);
            for (int hour = 0; hour < 6; hour++) {
                text.append(' ').append(random.nextInt(random.nextBoolean() ? 5 : 14));
            }
            text.append(';');
        }
        for (int hour = 0; hour < 6; hour++) {
            if (random.nextInt(3) == 0) {
                text.append("wind ").append(hour).append(' ').append("nesw".charAt(random.nextInt(4))).append(' ')
                    .append(random.nextInt(4)).append(';');
            }
            if (random.nextInt(3) == 0) {
                text.append("top ").append(hour).append(' ').append(1 + random.nextInt(40)).append(';');
            }
        }
        for (int i = random.nextInt(13); i > 0; i--) {
            int from = random.nextInt(30);
            text.append("wall ").append(random.nextInt(8)).append(' ').append(random.nextInt(8)).append(" above ")
                .append(random.nextInt(20)).append(" from ").append(from).append(" to ")
                .append(from + 1 + random.nextInt(36 - from)).append(';');
        }
        for (int x = 0; x < 8; x++) {
            text.append("field ").append(x).append(' ').append(random.nextInt(8)).append(';');
        }
        for (char name = 'a'; name < 'c'; name++) {
            text.append("glider ").append(name).append(" sink ").append(random.nextInt(4)).append(' ')
                .append(random.nextInt(4)).append(' ').append(random.nextInt(7)).append(' ').append(random.nextInt(12))
                .append(" handicap 100;");
        }
        return text.toString();
    }

    private static int point(Random random) {
        return random.nextInt(64);
    }

    private static void randomDay(Random random) {
        SoarHouse house = Due.on(randomMap(random));
        for (int i = 0; i < 3; i++) {
            int[] points = new int[random.nextInt(4)];
            for (int p = 0; p < points.length; p++) {
                points[p] = p > 0 && random.nextInt(5) == 0 ? points[p - 1] : point(random);
            }
            int finish = point(random);
            house.task(points.length > 0 ? points[0] : -1, points.length > 1 ? points[1] : -1,
                points.length > 2 ? points[2] : -1, finish);
            int glider = random.nextInt(2);
            int cell = point(random);
            int moment = random.nextInt(random.nextBoolean() ? 6 : 37);
            int height = random.nextInt(41);
            int finishHeight = random.nextInt(random.nextBoolean() ? 41 : 4);
            compare(house, new int[] {glider, cell, moment, height, finishHeight}, points, finish);
        }
    }

    private static void compare(SoarHouse house, int[] start, int[] points, int finish) {
        boolean shut = house.shut(start[1], start[2], start[3]) == 1;
        List<Integer> moves = shut ? null : plainWay(house, start, points, finish);
        int due = -1;
        if (moves != null) {
            due = start[2];
            for (int move : moves) {
                due += move == 0 ? 1 : 3 - (move - 1) % 3;
            }
        }
        String name = Arrays.toString(start) + Arrays.toString(points) + finish;
        Due.is("soonest " + name, house.soonest(start[0], start[1], start[2], start[3], start[4]), due);
        int count = moves == null ? 0 : moves.size();
        for (int k = 0; k <= count; k++) {
            Due.is("way " + name + k, house.way(start[0], start[1], start[2], start[3], start[4], k),
                k < count ? moves.get(k) : -1);
        }
        Due.is("safe " + name, house.safe(start[0], start[1], start[2], start[3]), shut ? -1 : plainSafe(house, start));
    }

    private static int stageIn(int[] points, int cell, int stage) {
        int now = stage;
        while (now < points.length && points[now] == cell) {
            now++;
        }
        return now;
    }

    /** The soonest moment from each state, by looking at all moves, from the day's end back. */
    private static List<Integer> plainWay(SoarHouse house, int[] start, int[] points, int finish) {
        int stages = points.length + 1;
        int[][][][] soonest = new int[37][stages][64][41];
        for (int t = 36; t >= start[2]; t--) {
            for (int stage = 0; stage < stages; stage++) {
                for (int cell = 0; cell < 64; cell++) {
                    for (int height = 0; height <= 40; height++) {
                        int best = 99;
                        if (stage == points.length && cell == finish && height >= start[4]) {
                            best = t;
                        }
                        for (int move = 0; move < 25 && best != t; move++) {
                            int to = house.move(start[0], cell, t, height, move);
                            if (to >= 0) {
                                int there = stageIn(points, to % 100, stage);
                                best = Math.min(best, soonest[to / 100 % 64][there][to % 100][to / 6400]);
                            }
                        }
                        soonest[t][stage][cell][height] = best;
                    }
                }
            }
        }
        int stage = stageIn(points, start[1], 0);
        int due = soonest[start[2]][stage][start[1]][start[3]];
        return due == 99 ? null : firstMoves(house, soonest, start, points, due);
    }

    private static List<Integer> firstMoves(SoarHouse house, int[][][][] soonest, int[] start, int[] points, int due) {
        List<Integer> moves = new ArrayList<>();
        int t = start[2];
        int cell = start[1];
        int height = start[3];
        int stage = stageIn(points, cell, 0);
        while (t < due) {
            for (int move = 0; move < 25; move++) {
                int to = house.move(start[0], cell, t, height, move);
                if (to >= 0) {
                    int there = stageIn(points, to % 100, stage);
                    if (soonest[to / 100 % 64][there][to % 100][to / 6400] == due) {
                        moves.add(move);
                        t = to / 100 % 64;
                        cell = to % 100;
                        height = to / 6400;
                        stage = there;
                        break;
                    }
                }
            }
        }
        return moves;
    }

    private static int plainSafe(SoarHouse house, int[] start) {
        boolean[][][] seen = new boolean[37][64][41];
        boolean[] cells = new boolean[64];
        seen[start[2]][start[1]][start[3]] = true;
        for (int t = start[2]; t <= 36; t++) {
            for (int cell = 0; cell < 64; cell++) {
                for (int height = 0; height <= 40; height++) {
                    if (seen[t][cell][height]) {
                        cells[cell] = true;
                        for (int move = 1; move < 25; move++) {
                            int to = house.move(start[0], cell, t, height, move);
                            if (to >= 0) {
                                seen[to / 100 % 64][to % 100][to / 6400] = true;
                            }
                        }
                    }
                }
            }
        }
        int fields = 0;
        for (int cell = 0; cell < 64; cell++) {
            // A field lies where a glider that can't move on is safe in one field.
            if (cells[cell] && house.safe(start[0], cell, 36, 0) == 1) {
                fields++;
            }
        }
        return fields;
    }
}
