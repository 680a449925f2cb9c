import java.util.ArrayList;
import java.util.List;
import java.util.Random;

/** Promises 19 to 25: pilots, fixes in two times, what was rounded and flown. */
public final class TraceTest {
    private static final String MAP = "glider a sink 1 1 1 1 handicap 120; wall 3 3 above 5 from 4 to 10;"
        + "wall 3 3 above 9 from 4 to 10; wall 6 3 above 0 from 20 to 30; wall 0 0 above 40 from 0 to 36;";

    public static void main(String[] args) {
        pilotsAndFixes();
        times();
        zones();
        twoTimes();
        rounding();
        maybeRounding();
        distances();
        walls();
        whatIsNone();
        Random random = new Random(42);
        for (int i = 0; i < 150; i++) {
            randomDay(random);
        }
        Due.close();
    }

    private static SoarHouse day(int a, int b, int c, int finish) {
        SoarHouse house = Due.on(MAP);
        house.pilot(0);
        house.task(a, b, c, finish);
        return house;
    }

    private static void pilotsAndFixes() {
        SoarHouse house = Due.on(MAP);
        Due.is("a fix of nobody", house.fix(0, 0, 0, 0), -1);
        Due.is("glider 1", house.pilot(1), -1);
        Due.is("glider -1", house.pilot(-1), -1);
        for (int i = 0; i < 8; i++) {
            Due.is("pilot " + i, house.pilot(0), i);
        }
        Due.is("a ninth", house.pilot(0), -1);
        int[][] wrong = {{8, 0, 0, 0}, {-1, 0, 0, 0}, {0, 36, 0, 0}, {0, -1, 0, 0}, {0, 0, 64, 0}, {0, 0, -1, 0},
            {0, 0, 0, 41}, {0, 0, 0, -1}};
        for (int[] w : wrong) {
            Due.is("a wrong fix", house.fix(w[0], w[1], w[2], w[3]), -1);
        }
        for (int i = 0; i < 200; i++) {
            Due.is("fix " + i, house.fix(7, 35, 63, 40), i);
        }
        Due.is("one more", house.fix(7, 35, 63, 40), -1);
        Due.is("untell 200", house.untell(200), false);
        Due.is("untell -1", house.untell(-1), false);
        Due.is("untell", house.untell(199), true);
        Due.is("untell again", house.untell(199), false);
        Due.is("there are 200 still", house.fix(7, 35, 63, 40), -1);
        Due.is("there are 200 still", house.about(5), 200);
        house.task(-1, -1, -1, 0);
        Due.is("one a step", house.flown(7, 5, 0), 1);
    }

    private static void times() {
        SoarHouse house = new SoarHouse();
        Due.is("at first", house.later(0), 0);
        Due.is("below 0", house.later(-1), -1);
        Due.is("above 1000", house.later(1001), -1);
        Due.is("it stays", house.about(6), 0);
        for (int i = 1; i <= 100; i++) {
            Due.is("later", house.later(1000), 1000 * i);
        }
        Due.is("above 100,000", house.later(1), -1);
        Due.is("it stays", house.later(0), 100000);
    }

    private static void zones() {
        SoarHouse house = new SoarHouse();
        Due.is("zone 0", house.zone(0), true);
        Due.is("zone 3", house.zone(3), true);
        Due.is("zone 4", house.zone(4), false);
        Due.is("zone -1", house.zone(-1), false);
        SoarHouse other = day(-1, -1, -1, 3);
        other.fix(0, 0, 0, 0);
        Due.is("zone 0 at first", other.rounded(0, false, 0), 0);
        other.zone(3);
        other.zone(4);
        Due.is("zone 3 stays", other.rounded(0, false, 0), 1);
    }

    private static void twoTimes() {
        SoarHouse house = day(-1, -1, -1, 7);
        house.later(5);
        house.fix(0, 3, 0, 0);
        house.later(1);
        house.fix(0, 3, 7, 0);
        house.later(1);
        house.fix(0, 4, 1, 0);
        house.untell(2);
        house.later(1);
        house.untell(1);
        house.later(1);
        house.fix(0, 3, 7, 0);
        Due.is("ahead of it", house.flown(0, 5, 4), 0);
        Due.is("the first", house.flown(0, 5, 5), 1);
        Due.is("not rounded", house.rounded(0, false, 5), 0);
        Due.is("the last told counts", house.rounded(0, false, 6), 1);
        Due.is("told and untold at once", house.flown(0, 5, 7), 1);
        Due.is("untold, the one ahead counts again", house.rounded(0, false, 8), 0);
        Due.is("it does", house.flown(0, 5, 8), 1);
        Due.is("told again", house.rounded(0, false, 9), 1);
        Due.is("later", house.rounded(0, false, Integer.MAX_VALUE), 1);
        Due.is("never", house.rounded(0, false, Integer.MIN_VALUE), 0);
    }

    private static void rounding() {
        SoarHouse house = day(3, 3, 0, 5);
        house.fix(0, 9, 5, 0);
        house.fix(0, 2, 0, 0);
        house.fix(0, 4, 3, 0);
        Due.is("two at once, out of order told", house.rounded(0, false, 0), 2);
        house.fix(0, 6, 0, 0);
        Due.is("all four", house.rounded(0, false, 0), 4);
        Due.is("the time", house.flown(0, 2, 0), 7);
        house.fix(0, 12, 5, 0);
        Due.is("the time of the first finish", house.flown(0, 2, 0), 7);
        house.fix(0, 0, 40, 0);
        Due.is("the time from the first fix", house.flown(0, 2, 0), 9);
        Due.is("the finish too early does not count", day(9, -1, -1, 0).rounded(0, false, 0), 0);
    }

    private static void maybeRounding() {
        SoarHouse house = day(4, 7, -1, 0);
        house.fix(0, 0, 0, 0);
        house.fix(0, 8, 0, 0);
        Due.is("just in time", house.rounded(0, true, 0), 1);
        house.fix(0, 20, 0, 0);
        Due.is("only", house.rounded(0, true, 0), 1);
        house.fix(0, 22, 0, 0);
        Due.is("one between two", house.rounded(0, true, 0), 1);
        house.fix(0, 35, 0, 0);
        Due.is("not in 13 steps", house.rounded(0, true, 0), 1);
        house.zone(1);
        Due.is("in 12 by the zone", house.rounded(0, true, 0), 3);
        SoarHouse tight = day(4, -1, -1, 0);
        tight.fix(0, 0, 0, 0);
        tight.fix(0, 7, 0, 0);
        Due.is("too late by one", tight.rounded(0, true, 0), 0);
        SoarHouse one = day(1, 1, 1, 0);
        one.fix(0, 0, 0, 0);
        one.fix(0, 30, 0, 0);
        Due.is("no more than one there", one.rounded(0, true, 0), 1);
        one.fix(0, 31, 1, 0);
        Due.is("the rest by a fix, and one again", one.rounded(0, true, 0), 3);
        one.fix(0, 34, 1, 0);
        Due.is("one behind it", one.rounded(0, true, 0), 4);
    }

    private static void distances() {
        SoarHouse house = day(7, 63, -1, 56);
        Due.is("no fixes: done", house.flown(0, 0, 0), 0);
        Due.is("no fixes: legs", house.flown(0, 1, 0), 0);
        Due.is("no fixes: time", house.flown(0, 2, 0), 0);
        house.fix(0, 0, 2, 0);
        Due.is("legs", house.flown(0, 1, 0), 5 + 7 + 7);
        Due.is("at the first fix", house.flown(0, 0, 0), 0);
        house.fix(0, 1, 0, 0);
        Due.is("not below 0", house.flown(0, 0, 0), 0);
        house.fix(0, 2, 13, 0);
        Due.is("two apart from it", house.flown(0, 0, 0), 3);
        house.fix(0, 3, 8, 0);
        Due.is("the nearest counts", house.flown(0, 0, 0), 3);
        house.fix(0, 4, 7, 0);
        Due.is("one leg", house.flown(0, 0, 0), 5);
        house.fix(0, 5, 47, 0);
        Due.is("and most of the next", house.flown(0, 0, 0), 5 + 5);
        house.zone(2);
        Due.is("rounded by the zone", house.rounded(0, false, 0), 2);
        Due.is("whole legs then", house.flown(0, 0, 0), 5 + 7);
        Due.is("no time", house.flown(0, 2, 0), 0);
    }

    private static void walls() {
        SoarHouse house = day(-1, -1, -1, 0);
        house.fix(0, 4, 27, 6);
        Due.is("the lower one", house.flown(0, 3, 0), 1);
        house.fix(0, 3, 27, 40);
        house.fix(0, 10, 27, 40);
        Due.is("ahead of it and behind it", house.flown(0, 3, 0), 1);
        Due.is("the higher one maybe, and the far one, whatever its height", house.flown(0, 4, 0), 2 + 8);
        house.fix(0, 9, 27, 10);
        Due.is("both", house.flown(0, 3, 0), 3);
        Due.is("none maybe", house.flown(0, 4, 0), 0);
        house.fix(0, 18, 30, 0);
        Due.is("no wall on the way", house.flown(0, 4, 0), 0);
        house.fix(0, 20, 30, 0);
        Due.is("not at the next fix", house.flown(0, 4, 0), 0);
        Due.is("nor at a height of 0", house.flown(0, 3, 0), 3);
        house.fix(0, 22, 30, 0);
        Due.is("between", house.flown(0, 4, 0), 4);
        house.fix(0, 21, 31, 0);
        Due.is("not between near steps", house.flown(0, 4, 0), 0);
        house.fix(0, 30, 28, 0);
        Due.is("there in time", house.flown(0, 4, 0), 4);
        SoarHouse far = day(-1, -1, -1, 0);
        far.fix(0, 18, 28, 0);
        far.fix(0, 21, 31, 0);
        Due.is("two on in two steps, one back", far.flown(0, 4, 0), 4);
        far.fix(0, 21, 29, 0);
        Due.is("one back too", far.flown(0, 4, 0), 4);
        far.fix(0, 21, 28, 0);
        Due.is("not two back", far.flown(0, 4, 0), 0);
    }

    private static void whatIsNone() {
        SoarHouse house = Due.on(MAP);
        house.pilot(0);
        Due.is("rounded without a task", house.rounded(0, false, 0), -1);
        Due.is("flown without a task", house.flown(0, 5, 0), -1);
        house.task(-1, -1, -1, 0);
        Due.is("rounded of pilot 1", house.rounded(1, true, 0), -1);
        Due.is("rounded of pilot -1", house.rounded(-1, false, 0), -1);
        Due.is("flown of pilot 1", house.flown(1, 0, 0), -1);
        Due.is("what 6", house.flown(0, 6, 0), -1);
        Due.is("what -1", house.flown(0, -1, 0), -1);
        for (int what = 0; what < 6; what++) {
            Due.is("nothing flown " + what, house.flown(0, what, 0), 0);
        }
    }

    private static int apart(int a, int b) {
        return Math.max(Math.abs(a % 8 - b % 8), Math.abs(a / 8 - b / 8));
    }

    /** Random fixes told and untold, looked at beside plain workings of the document's words. */
    private static void randomDay(Random random) {
        int[][] walls = new int[random.nextInt(13)][];
        StringBuilder text = new StringBuilder("glider a sink 1 1 1 1 handicap 100;");
        for (int i = 0; i < walls.length; i++) {
            int from = random.nextInt(36);
            walls[i] = new int[] {random.nextInt(64), random.nextInt(41), from, from + 1 + random.nextInt(36 - from)};
            text.append("wall ").append(walls[i][0] % 8).append(' ').append(walls[i][0] / 8).append(" above ")
                .append(walls[i][1]).append(" from ").append(walls[i][2]).append(" to ").append(walls[i][3]).append(';');
        }
        SoarHouse house = Due.on(text.toString());
        house.pilot(0);
        house.pilot(0);
        int turns = random.nextInt(4);
        List<Integer> points = new ArrayList<>();
        int near = 1 + random.nextInt(64);
        for (int i = 0; i <= turns; i++) {
            points.add(random.nextInt(near));
        }
        house.task(turns > 0 ? points.get(0) : -1, turns > 1 ? points.get(1) : -1, turns > 2 ? points.get(2) : -1,
            points.get(turns));
        int zone = random.nextInt(4);
        house.zone(zone);
        List<int[]> fixes = new ArrayList<>();
        int time = 0;
        for (int i = 0; i < 60; i++) {
            int what = random.nextInt(6);
            if (what == 0) {
                int by = random.nextInt(3);
                time += by;
                house.later(by);
            } else if (what == 1 && !fixes.isEmpty()) {
                int fix = random.nextInt(fixes.size());
                boolean open = fixes.get(fix)[5] < 0;
                Due.is("untell", house.untell(fix), open);
                if (open) {
                    fixes.get(fix)[5] = time;
                }
            } else {
                int[] fix = {random.nextInt(2), random.nextInt(36), random.nextInt(near), random.nextInt(41), time, -1};
                Due.is("fix", house.fix(fix[0], fix[1], fix[2], fix[3]), fixes.size());
                fixes.add(fix);
            }
        }
        for (int i = 0; i < 12; i++) {
            compare(house, fixes, points, walls, new int[] {i % 2, random.nextInt(time + 2) - 1, zone});
        }
    }

    private static void compare(SoarHouse house, List<int[]> fixes, List<Integer> points, int[][] walls, int[] asked) {
        int pilot = asked[0];
        int k = asked[1];
        int zone = asked[2];
        List<int[]> trace = new ArrayList<>();
        for (int step = 0; step < 36; step++) {
            int[] last = null;
            for (int[] fix : fixes) {
                if (fix[0] == pilot && fix[1] == step && fix[4] <= k && !(fix[5] >= 0 && fix[5] <= k)) {
                    last = fix;
                }
            }
            if (last != null) {
                trace.add(last);
            }
        }
        List<Integer> by = new ArrayList<>();
        for (int point : points) {
            int found = -1;
            for (int i = by.isEmpty() ? 0 : by.get(by.size() - 1); i < trace.size() && found < 0; i++) {
                if (apart(trace.get(i)[2], point) <= zone) {
                    found = i;
                }
            }
            if (found < 0) {
                break;
            }
            by.add(found);
        }
        int all = 0;
        int done = 0;
        for (int leg = 0; leg < points.size() && !trace.isEmpty(); leg++) {
            int length = apart(leg == 0 ? trace.get(0)[2] : points.get(leg - 1), points.get(leg));
            all += length;
            if (leg < by.size()) {
                done += length;
            } else if (leg == by.size()) {
                int least = 99;
                for (int i = leg == 0 ? 0 : by.get(leg - 1); i < trace.size(); i++) {
                    least = Math.min(least, apart(trace.get(i)[2], points.get(leg)));
                }
                done += Math.max(0, length - least);
            }
        }
        int time = by.size() == points.size() ? trace.get(by.get(by.size() - 1))[1] - trace.get(0)[1] : 0;
        int sure = 0;
        int maybe = 0;
        for (int w = 0; w < walls.length; w++) {
            for (int i = 0; i < trace.size(); i++) {
                int[] f = trace.get(i);
                if (f[2] == walls[w][0] && f[3] > walls[w][1] && f[1] >= walls[w][2] && f[1] < walls[w][3]) {
                    sure |= 1 << w;
                }
                for (int t = walls[w][2]; i + 1 < trace.size() && t < walls[w][3]; t++) {
                    int[] g = trace.get(i + 1);
                    if (t > f[1] && t < g[1] && apart(f[2], walls[w][0]) <= t - f[1] && apart(walls[w][0], g[2]) <= g[1] - t) {
                        maybe |= 1 << w;
                    }
                }
            }
        }
        int[] due = {done, all, time, sure, maybe & ~sure, trace.size()};
        for (int what = 0; what < 6; what++) {
            Due.is("flown " + what, house.flown(pilot, what, k), due[what]);
        }
        Due.is("rounded, least", house.rounded(pilot, false, k), by.size());
        Due.is("rounded, most", house.rounded(pilot, true, k), most(trace, points, zone));
    }

    private static int most(List<int[]> trace, List<Integer> points, int zone) {
        int next = 0;
        for (int i = 0; i < trace.size(); i++) {
            int[] f = trace.get(i);
            while (next < points.size() && apart(f[2], points.get(next)) <= zone) {
                next++;
            }
            if (i + 1 < trace.size() && next < points.size()) {
                int[] g = trace.get(i + 1);
                int to = Math.max(0, apart(f[2], points.get(next)) - zone);
                int on = Math.max(0, apart(points.get(next), g[2]) - zone);
                if (to + on <= g[1] - f[1]) {
                    next++;
                }
            }
        }
        return next;
    }
}
