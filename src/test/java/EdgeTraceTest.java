/** Promises 19 to 25, sentence by sentence: pilots, fixes in two times, what was rounded and flown, at their edges. */
public final class EdgeTraceTest {
    private static final int[] FAR = {Integer.MIN_VALUE, -2, -1, Integer.MAX_VALUE};
    private static final String GLIDER = "glider g sink 1 1 1 1 handicap 100;";

    public static void main(String[] args) {
        eightPilotsAtMost();
        noSuchGlider();
        whatAFixCanBe();
        twoHundredInAll();
        untold();
        later();
        upTo100000();
        zones();
        toldAtKOrBefore();
        untoldAtKOrBefore();
        theLastTold();
        oneAStep();
        roundedByTheFirstFix();
        theZoneIsEnough();
        severalByOneFix();
        mostByFixes();
        mostBetweenFixes();
        mostByTheZone();
        noMoreThanOneThere();
        behindTheLastFix();
        onePilotBehindAnother();
        afixInEachStep();
        theTime();
        theDone();
        doneOfTheNextLeg();
        theLegs();
        wallsForSure();
        wallsMaybe();
        maybeNotForSure();
        wallBits();
        noSuchPilotOrTask();
        anotherWhat();
        Due.close();
    }

    /** A day with one pilot, a task and no fixes. */
    private static SoarHouse day(int a, int b, int c, int finish) {
        SoarHouse house = Due.on(GLIDER);
        house.pilot(0);
        house.task(a, b, c, finish);
        return house;
    }

    private static void fixes(SoarHouse house, int... stepsAndCells) {
        for (int i = 0; i < stepsAndCells.length; i += 2) {
            house.fix(0, stepsAndCells[i], stepsAndCells[i + 1], 0);
        }
    }

    private static void rounded(SoarHouse house, int least, int most) {
        Due.is("least", house.rounded(0, false, 0), least);
        Due.is("most", house.rounded(0, true, 0), most);
    }

    private static void flown(SoarHouse house, int done, int legs, int time) {
        Due.is("done", house.flown(0, 0, 0), done);
        Due.is("legs", house.flown(0, 1, 0), legs);
        Due.is("time", house.flown(0, 2, 0), time);
    }

    /** "PILOTS, 8 at most"; "NONE, doing nothing, if .. there are 8". */
    private static void eightPilotsAtMost() {
        SoarHouse house = Due.on(GLIDER);
        for (int i = 0; i < 8; i++) {
            Due.is("pilot " + i, house.pilot(0), i);
            Due.is("pilots", house.about(4), i + 1);
        }
        for (int i = 0; i < 3; i++) {
            Due.is("a ninth", house.pilot(0), -1);
            Due.is("eight", house.about(4), 8);
        }
        Due.is("the eighth has fixes", house.fix(7, 0, 0, 0), 0);
        Due.is("no ninth has", house.fix(8, 0, 0, 0), -1);
    }

    /** "NONE, doing nothing, if there is no such glider". */
    private static void noSuchGlider() {
        SoarHouse none = new SoarHouse();
        Due.is("no glider at all", none.pilot(0), -1);
        StringBuilder text = new StringBuilder();
        for (int count = 1; count <= 4; count++) {
            text.append("glider ").append((char) ('a' + count)).append(" sink 1 1 1 1 handicap 100;");
            SoarHouse house = Due.on(text.toString());
            for (int far : FAR) {
                Due.is("glider " + far, house.pilot(far), -1);
            }
            Due.is("glider " + count, house.pilot(count), -1);
            Due.is("no pilot came", house.about(4), 0);
            Due.is("the last glider", house.pilot(count - 1), 0);
            Due.is("the first glider", house.pilot(0), 1);
        }
    }

    /** "NONE, doing nothing, if it can't be": a pilot, a STEP, a CELL, a height. */
    private static void whatAFixCanBe() {
        SoarHouse house = day(-1, -1, -1, 0);
        house.pilot(0);
        for (int far : FAR) {
            Due.is("pilot " + far, house.fix(far, 0, 0, 0), -1);
            Due.is("step " + far, house.fix(0, far, 0, 0), -1);
            Due.is("cell " + far, house.fix(0, 0, far, 0), -1);
            Due.is("height " + far, house.fix(0, 0, 0, far), -1);
        }
        Due.is("pilot 2", house.fix(2, 0, 0, 0), -1);
        Due.is("step 36", house.fix(0, 36, 0, 0), -1);
        Due.is("cell 64", house.fix(0, 0, 64, 0), -1);
        Due.is("height 41", house.fix(0, 0, 0, 41), -1);
        Due.is("no fix came", house.about(5), 0);
        Due.is("none counts", house.flown(0, 5, 0), 0);
        Due.is("the first of all", house.fix(0, 0, 0, 0), 0);
        Due.is("the last of all", house.fix(1, 35, 63, 40), 1);
        Due.is("step 36 again", house.fix(1, 36, 63, 40), -1);
        Due.is("two", house.about(5), 2);
    }

    /** "FIXES, 200 in all"; UNTOLD ones are FIXES too. */
    private static void twoHundredInAll() {
        SoarHouse house = day(-1, -1, -1, 0);
        for (int i = 1; i < 8; i++) {
            house.pilot(0);
        }
        for (int i = 0; i < 200; i++) {
            Due.is("fix " + i, house.fix(i % 8, i / 8, i % 64, i % 41), i);
        }
        for (int pilot = 0; pilot < 8; pilot++) {
            Due.is("one more", house.fix(pilot, 35, 0, 0), -1);
            Due.is("each has", house.flown(pilot, 5, 0), 25);
        }
        Due.is("untell", house.untell(199), true);
        Due.is("one more still", house.fix(0, 35, 0, 0), -1);
        Due.is("two hundred", house.about(5), 200);
        Due.is("one less counts", house.flown(7, 5, 0), 24);
    }

    /** "It is UNTOLD: true; false if it is so already, or there is none such." */
    private static void untold() {
        SoarHouse house = day(-1, -1, -1, 0);
        Due.is("none", house.untell(0), false);
        fixes(house, 0, 0, 1, 1);
        for (int far : FAR) {
            Due.is("fix " + far, house.untell(far), false);
        }
        Due.is("fix 2", house.untell(2), false);
        Due.is("both count", house.flown(0, 5, 0), 2);
        Due.is("the first", house.untell(0), true);
        Due.is("the first again", house.untell(0), false);
        Due.is("one counts", house.flown(0, 5, 0), 1);
        Due.is("the last", house.untell(1), true);
        Due.is("none counts", house.flown(0, 5, 0), 0);
        Due.is("they are fixes still", house.about(5), 2);
        SoarHouse twice = day(-1, -1, -1, 0);
        fixes(twice, 0, 0);
        twice.later(3);
        twice.untell(0);
        twice.later(4);
        Due.is("again, later", twice.untell(0), false);
        Due.is("it was untold before", twice.flown(0, 5, 3), 0);
        Due.is("and told ahead of that", twice.flown(0, 5, 2), 1);
    }

    /** "So much later (0 .. 1000): the TIME; NONE, doing nothing, for another number". */
    private static void later() {
        SoarHouse house = new SoarHouse();
        Due.is("0 at first", house.later(0), 0);
        Due.is("by 1000", house.later(1000), 1000);
        for (int by : new int[] {Integer.MIN_VALUE, -1000, -1, 1001, 100000, Integer.MAX_VALUE}) {
            Due.is("by " + by, house.later(by), -1);
            Due.is("the time stays", house.about(6), 1000);
        }
        Due.is("by 1", house.later(1), 1001);
        Due.is("by 0", house.later(0), 1001);
        Due.is("by 999", house.later(999), 2000);
    }

    /** "or if it would be above 100,000". */
    private static void upTo100000() {
        SoarHouse house = Due.on(GLIDER);
        house.pilot(0);
        house.task(-1, -1, -1, 0);
        for (int i = 1; i < 100; i++) {
            house.later(1000);
        }
        Due.is("so late", house.later(999), 99999);
        Due.is("by 2", house.later(2), -1);
        Due.is("by 1000", house.later(1000), -1);
        Due.is("it stays", house.about(6), 99999);
        Due.is("by 1", house.later(1), 100000);
        Due.is("by 1 more", house.later(1), -1);
        Due.is("by 0", house.later(0), 100000);
        fixes(house, 0, 0);
        Due.is("told then", house.flown(0, 5, 100000), 1);
        Due.is("not ahead of that", house.flown(0, 5, 99999), 0);
        Due.is("as known at the end of time", house.flown(0, 5, Integer.MAX_VALUE), 1);
    }

    /** "ZONE (0 .. 3; 0 at first)"; "false, doing nothing, if it can't be". */
    private static void zones() {
        SoarHouse house = day(-1, -1, -1, 0);
        fixes(house, 0, 3);
        Due.is("0 at first", house.rounded(0, false, 0), 0);
        for (int zone = 0; zone <= 3; zone++) {
            Due.is("zone " + zone, house.zone(zone), true);
            Due.is("three apart", house.rounded(0, false, 0), zone == 3 ? 1 : 0);
            for (int far : new int[] {Integer.MIN_VALUE, -1, 4, 5, Integer.MAX_VALUE}) {
                Due.is("zone " + far, house.zone(far), false);
            }
            Due.is("it stays", house.rounded(0, false, 0), zone == 3 ? 1 : 0);
        }
    }

    /** "as known at k those count that were TOLD at k or before". */
    private static void toldAtKOrBefore() {
        SoarHouse house = day(-1, -1, -1, 0);
        for (int i = 0; i < 5; i++) {
            fixes(house, i, i);
            house.later(10);
        }
        int[] ks = {Integer.MIN_VALUE, -1, 0, 1, 9, 10, 11, 19, 20, 39, 40, 50, Integer.MAX_VALUE};
        int[] counts = {0, 0, 1, 1, 1, 2, 2, 2, 3, 4, 5, 5, 5};
        for (int i = 0; i < ks.length; i++) {
            Due.is("known at " + ks[i], house.flown(0, 5, ks[i]), counts[i]);
        }
    }

    /** "not UNTOLD at k or before"; "UNTOLD at a later one or the same". */
    private static void untoldAtKOrBefore() {
        SoarHouse house = day(-1, -1, -1, 0);
        house.later(5);
        fixes(house, 1, 1, 2, 2, 3, 3);
        house.untell(0);
        house.later(1);
        house.untell(1);
        house.later(2);
        house.untell(2);
        int[] counts = {0, 2, 1, 1, 0, 0};
        for (int k = 4; k <= 9; k++) {
            Due.is("known at " + k, house.flown(0, 5, k), counts[k - 4]);
        }
        Due.is("known at last", house.flown(0, 5, Integer.MAX_VALUE), 0);
        SoarHouse atOnce = day(-1, -1, -1, 0);
        fixes(atOnce, 0, 0);
        atOnce.untell(0);
        Due.is("untold at the time 0", atOnce.flown(0, 5, 0), 0);
        Due.is("ahead of it", atOnce.flown(0, 5, -1), 0);
    }

    /** "of several of one STEP the last told". */
    private static void theLastTold() {
        SoarHouse house = day(-1, -1, -1, 7);
        fixes(house, 4, 0, 4, 7, 4, 1);
        Due.is("the third", house.flown(0, 0, 0), 0);
        rounded(house, 0, 0);
        house.untell(2);
        rounded(house, 1, 1);
        house.untell(1);
        rounded(house, 0, 0);
        Due.is("one counts", house.flown(0, 5, 0), 1);
        house.untell(0);
        Due.is("none counts", house.flown(0, 5, 0), 0);
        SoarHouse times = day(-1, -1, -1, 7);
        fixes(times, 4, 7);
        times.later(1);
        fixes(times, 4, 0);
        times.later(1);
        times.untell(1);
        times.later(1);
        fixes(times, 4, 1);
        Due.is("at 0 the first", times.rounded(0, false, 0), 1);
        Due.is("at 1 the second", times.rounded(0, false, 1), 0);
        Due.is("at 2 the first again", times.rounded(0, false, 2), 1);
        Due.is("at 3 the third", times.rounded(0, false, 3), 0);
    }

    /** "FIXES that count (one a STEP)". */
    private static void oneAStep() {
        SoarHouse house = day(-1, -1, -1, 0);
        house.pilot(0);
        for (int step = 0; step < 36; step++) {
            fixes(house, step, 0, 35 - step, 1, step, 2);
            house.fix(1, 35, 0, 0);
        }
        Due.is("one for each", house.flown(0, 5, 0), 36);
        Due.is("one in all", house.flown(1, 5, 0), 1);
    }

    /** "each by the first FIX, that by which the one ahead was or a later one". */
    private static void roundedByTheFirstFix() {
        SoarHouse house = day(2, 4, -1, 6);
        fixes(house, 1, 4, 2, 6);
        rounded(house, 0, 0);
        fixes(house, 3, 2);
        rounded(house, 1, 1);
        fixes(house, 5, 6);
        Due.is("not the finish ahead of a point", house.rounded(0, false, 0), 1);
        fixes(house, 4, 4);
        Due.is("all", house.rounded(0, false, 0), 3);
        Due.is("by fixes that lie in order", house.flown(0, 2, 0), 4);
        SoarHouse back = day(2, 0, 2, 0);
        fixes(back, 0, 0, 1, 2, 2, 0, 3, 2);
        rounded(back, 3, 3);
        fixes(back, 35, 0);
        rounded(back, 4, 4);
        Due.is("its time", back.flown(0, 2, 0), 35);
    }

    /** "that is APART no more than ZONE from it"; "APART .. by the greater of what x and y differ". */
    private static void theZoneIsEnough() {
        for (int zone = 0; zone <= 3; zone++) {
            for (int cell = 0; cell < 64; cell++) {
                SoarHouse house = day(-1, -1, -1, 27);
                house.zone(zone);
                fixes(house, 9, cell);
                int apart = Math.max(Math.abs(cell % 8 - 3), Math.abs(cell / 8 - 3));
                Due.is("zone " + zone + " in " + cell, house.rounded(0, false, 0), apart <= zone ? 1 : 0);
                Due.is("most too", house.rounded(0, true, 0), apart <= zone ? 1 : 0);
                Due.is("legs", house.flown(0, 1, 0), apart);
            }
        }
    }

    private static void severalByOneFix() {
        SoarHouse house = day(9, 9, 9, 9);
        fixes(house, 3, 9);
        rounded(house, 4, 4);
        flown(house, 0, 0, 0);
        SoarHouse wide = day(0, 18, 36, 54);
        wide.zone(3);
        fixes(wide, 3, 27);
        rounded(wide, 4, 4);
        flown(wide, 3 + 2 + 2 + 2, 3 + 2 + 2 + 2, 0);
        SoarHouse narrow = day(0, 18, 36, 54);
        narrow.zone(2);
        fixes(narrow, 3, 27);
        rounded(narrow, 0, 0);
    }

    /** "Most: FIX by FIX those next in order that it rounds". */
    private static void mostByFixes() {
        SoarHouse house = day(0, 2, 2, 4);
        fixes(house, 0, 0, 1, 1, 2, 2);
        rounded(house, 3, 3);
        fixes(house, 3, 3, 4, 4);
        rounded(house, 4, 4);
    }

    /** "the next one in order, if the way from a to its zone and from there to b together is no more than q - p". */
    private static void mostBetweenFixes() {
        for (int steps = 1; steps <= 12; steps++) {
            SoarHouse house = day(5, -1, -1, 63);
            fixes(house, 7, 0, 7 + steps, 2);
            rounded(house, 0, 5 + 3 <= steps ? 1 : 0);
            SoarHouse same = day(3, -1, -1, 63);
            fixes(same, 7, 0, 7 + steps, 0);
            rounded(same, 0, 6 <= steps ? 1 : 0);
            SoarHouse between = day(2, -1, -1, 63);
            fixes(between, 7, 0, 7 + steps, 4);
            rounded(between, 0, 4 <= steps ? 1 : 0);
        }
    }

    /** "(APART less ZONE, 0 at least)". */
    private static void mostByTheZone() {
        for (int zone = 0; zone <= 3; zone++) {
            for (int steps = 1; steps <= 10; steps++) {
                SoarHouse house = day(5, -1, -1, 63);
                house.zone(zone);
                fixes(house, 7, 0, 7 + steps, 1);
                rounded(house, 0, 5 - zone + 4 - zone <= steps ? 1 : 0);
            }
        }
        SoarHouse inside = day(4, -1, -1, 63);
        inside.zone(3);
        fixes(inside, 7, 0, 8, 0);
        rounded(inside, 0, 0);
        fixes(inside, 8, 1);
        rounded(inside, 1, 1);
        SoarHouse once = day(1, 1, -1, 63);
        once.zone(3);
        fixes(once, 7, 40, 9, 1);
        rounded(once, 2, 2);
        SoarHouse less = day(4, 4, 4, 4);
        less.zone(2);
        fixes(less, 7, 1, 9, 1);
        rounded(less, 0, 1);
        fixes(less, 9, 4);
        rounded(less, 4, 4);
    }

    /** "no more than one there". */
    private static void noMoreThanOneThere() {
        SoarHouse house = day(1, 2, 3, 4);
        fixes(house, 0, 0, 30, 0);
        rounded(house, 0, 1);
        fixes(house, 32, 0);
        rounded(house, 0, 1);
        fixes(house, 34, 2);
        rounded(house, 0, 2);
        SoarHouse fixed = day(1, 2, 3, 4);
        fixes(fixed, 0, 0, 30, 2);
        rounded(fixed, 0, 2);
        fixes(fixed, 35, 4);
        rounded(fixed, 0, 4);
    }

    /** Behind the last FIX there is none next. */
    private static void behindTheLastFix() {
        SoarHouse house = day(0, 0, 0, 1);
        fixes(house, 0, 0);
        rounded(house, 3, 3);
        SoarHouse none = day(0, -1, -1, 0);
        rounded(none, 0, 0);
        fixes(none, 35, 1);
        rounded(none, 0, 0);
    }

    /** Of a pilot with few FIXES nothing of one with more, who was looked at just before. */
    private static void onePilotBehindAnother() {
        SoarHouse house = Due.on(GLIDER + "wall 2 0 above 0 from 0 to 36;");
        house.pilot(0);
        house.pilot(0);
        house.task(2, -1, -1, 7);
        for (int i = 0; i < 8; i++) {
            house.fix(0, 4 * i, i, 0);
        }
        house.fix(1, 0, 0, 0);
        house.fix(1, 1, 1, 0);
        house.fix(1, 2, 0, 0);
        for (int i = 0; i < 2; i++) {
            Due.is("most of the first", house.rounded(0, true, 0), 2);
            Due.is("most of the second", house.rounded(1, true, 0), 0);
            Due.is("walls of the first", house.flown(0, 4, 0), 1);
            Due.is("walls of the second", house.flown(1, 4, 0), 0);
            Due.is("done by the first", house.flown(0, 0, 0), 7);
            Due.is("done by the second", house.flown(1, 0, 0), 1);
            Due.is("legs of the first", house.flown(0, 1, 0), 7);
            Due.is("legs of the second", house.flown(1, 1, 0), 7);
            Due.is("time of the first", house.flown(0, 2, 0), 28);
            Due.is("time of the second", house.flown(1, 2, 0), 0);
            Due.is("least of the first", house.rounded(0, false, 0), 2);
            Due.is("none as known before", house.rounded(0, true, -1), 0);
            Due.is("nor done", house.flown(0, 0, -1), 0);
            Due.is("nor walls", house.flown(0, 4, -1), 0);
        }
    }

    /** A FIX in each STEP of the day, and no time between them. */
    private static void afixInEachStep() {
        SoarHouse house = Due.on(GLIDER + "wall 0 0 above 0 from 0 to 36; wall 1 0 above 40 from 0 to 36;");
        house.pilot(0);
        house.task(1, -1, -1, 63);
        for (int step = 0; step < 36; step++) {
            house.fix(0, step, 0, 0);
        }
        rounded(house, 0, 0);
        entered(house, 0, 0);
        flown(house, 0, 1 + 7, 0);
        house.fix(0, 35, 1, 1);
        rounded(house, 1, 1);
        house.untell(34);
        rounded(house, 1, 1);
        entered(house, 0, 1 + 2);
    }

    /** "the STEP of the last of these FIXES less that of the first FIX"; "(0 if not all were ROUNDED)". */
    private static void theTime() {
        SoarHouse house = day(1, -1, -1, 2);
        flown(house, 0, 0, 0);
        fixes(house, 0, 9);
        flown(house, 0, 2, 0);
        fixes(house, 34, 1);
        flown(house, 1, 2, 0);
        fixes(house, 35, 2);
        flown(house, 2, 2, 35);
        SoarHouse quick = day(1, -1, -1, 1);
        fixes(quick, 20, 1, 35, 1);
        flown(quick, 0, 0, 0);
        rounded(quick, 2, 2);
        fixes(quick, 3, 63);
        Due.is("from the first fix", quick.flown(0, 2, 0), 17);
        quick.untell(2);
        Due.is("without it", quick.flown(0, 2, 0), 0);
    }

    /** "APART from the first FIX's CELL to the first turning point, from there to the next one, and so on". */
    private static void theDone() {
        SoarHouse house = day(7, 63, 56, 0);
        int[] cells = {18, 7, 63, 56, 0};
        int[] legs = {5, 7, 7, 7};
        int done = 0;
        for (int i = 0; i < 5; i++) {
            fixes(house, 2 * i, cells[i]);
            done += i == 0 ? 0 : legs[i - 1];
            flown(house, done, 26, i == 4 ? 8 : 0);
        }
        fixes(house, 20, 63);
        flown(house, 26, 26, 8);
        SoarHouse zone = day(7, -1, -1, 0);
        zone.zone(3);
        fixes(zone, 0, 1, 1, 4, 2, 3);
        flown(zone, 12 + 1, 6 + 7, 2);
    }

    /** "of the next leg its length less the least APART from its end of all FIXES from the one .. ahead on (0 at least)". */
    private static void doneOfTheNextLeg() {
        SoarHouse house = day(4, -1, -1, 60);
        fixes(house, 1, 0, 2, 3);
        flown(house, 3, 4 + 7, 0);
        fixes(house, 3, 1);
        flown(house, 3, 11, 0);
        fixes(house, 4, 52);
        Due.is("far from it", house.flown(0, 0, 0), 3);
        fixes(house, 5, 4);
        Due.is("what lies ahead of it does not count", house.flown(0, 0, 0), 4);
        fixes(house, 6, 28);
        Due.is("what lies behind it does", house.flown(0, 0, 0), 4 + 3);
        fixes(house, 7, 12);
        Due.is("the nearest", house.flown(0, 0, 0), 4 + 3);
        SoarHouse away = day(0, -1, -1, 63);
        fixes(away, 1, 9, 2, 27, 3, 63);
        flown(away, 0, 1 + 7, 0);
        SoarHouse aside = day(-1, -1, -1, 7);
        fixes(aside, 1, 4);
        flown(aside, 0, 3, 0);
        fixes(aside, 2, 12);
        flown(aside, 0, 3, 0);
        fixes(aside, 3, 14);
        flown(aside, 2, 3, 0);
        SoarHouse over = day(0, -1, -1, 1);
        over.zone(3);
        fixes(over, 1, 3);
        Due.is("rounded by the zone, both", over.rounded(0, false, 0), 2);
        SoarHouse beyond = day(0, -1, -1, 7);
        beyond.zone(2);
        fixes(beyond, 1, 1);
        flown(beyond, 1 + 1, 1 + 7, 0);
        SoarHouse behind = day(2, -1, -1, 7);
        behind.zone(2);
        fixes(behind, 1, 0);
        flown(behind, 2 + 0, 2 + 5, 0);
    }

    /** "LEGS: all of them. 0 without FIXES, all." */
    private static void theLegs() {
        SoarHouse house = day(63, 0, 63, 0);
        flown(house, 0, 0, 0);
        Due.is("no walls", house.flown(0, 3, 0), 0);
        Due.is("nor maybe", house.flown(0, 4, 0), 0);
        Due.is("no fixes", house.flown(0, 5, 0), 0);
        fixes(house, 9, 0);
        flown(house, 0, 28, 0);
        house.untell(0);
        flown(house, 0, 0, 0);
        fixes(house, 9, 63);
        flown(house, 0, 21, 0);
        SoarHouse finish = day(-1, -1, -1, 7);
        fixes(finish, 9, 0);
        flown(finish, 0, 7, 0);
    }

    private static SoarHouse walled(String walls) {
        SoarHouse house = Due.on(GLIDER + walls);
        house.pilot(0);
        house.task(-1, -1, -1, 63);
        return house;
    }

    private static void entered(SoarHouse house, int sure, int maybe) {
        Due.is("for sure", house.flown(0, 3, 0), sure);
        Due.is("maybe", house.flown(0, 4, 0), maybe);
    }

    /** "for sure: by a FIX in a CELL that is shut at its STEP for its height". */
    private static void wallsForSure() {
        for (int step = 3; step <= 9; step++) {
            for (int height = 11; height <= 14; height++) {
                SoarHouse house = walled("wall 2 1 above 12 from 5 to 8;");
                house.fix(0, step, 10, height);
                entered(house, step >= 5 && step < 8 && height > 12 ? 1 : 0, 0);
                house.fix(0, step, 11, height);
                entered(house, 0, 0);
            }
        }
        SoarHouse last = walled("wall 2 1 above 39 from 35 to 36; wall 0 0 above 0 from 0 to 1;");
        last.fix(0, 35, 10, 40);
        last.fix(0, 0, 0, 1);
        entered(last, 3, 0);
        last.fix(0, 0, 0, 0);
        last.fix(0, 35, 10, 39);
        entered(last, 0, 0);
    }

    /** "at some STEP t behind p and ahead of q that the wall has, from a to it is t - p at most, and from it to b q - t". */
    private static void wallsMaybe() {
        for (int from = 8; from <= 16; from++) {
            SoarHouse house = walled("wall 3 0 above 40 from " + from + " to " + (from + 1) + ";");
            fixes(house, 9, 1, 15, 4);
            entered(house, 0, from >= 11 && from <= 14 ? 1 : 0);
            SoarHouse there = walled("wall 3 0 above 0 from " + from + " to " + (from + 1) + ";");
            fixes(there, 9, 3, 15, 3);
            entered(there, 0, from >= 10 && from <= 14 ? 1 : 0);
            SoarHouse near = walled("wall 3 0 above 0 from " + from + " to " + (from + 1) + ";");
            fixes(near, 9, 3, 10, 3, 15, 40);
            entered(near, 0, 0);
        }
        SoarHouse wide = walled("wall 3 0 above 0 from 0 to 36;");
        fixes(wide, 9, 0, 15, 0);
        entered(wide, 0, 1);
        fixes(wide, 15, 8);
        entered(wide, 0, 1);
        fixes(wide, 14, 0);
        entered(wide, 0, 0);
        SoarHouse one = walled("wall 3 0 above 0 from 0 to 36;");
        fixes(one, 9, 3);
        entered(one, 0, 0);
        fixes(one, 10, 3);
        entered(one, 0, 0);
        fixes(one, 12, 3);
        entered(one, 0, 1);
        fixes(one, 11, 3);
        entered(one, 0, 0);
    }

    /** "Maybe (and not so for sure)". */
    private static void maybeNotForSure() {
        SoarHouse house = walled("wall 3 0 above 5 from 0 to 36; wall 3 0 above 9 from 0 to 36;");
        house.fix(0, 2, 3, 6);
        house.fix(0, 9, 3, 0);
        entered(house, 1, 2);
        house.fix(0, 20, 3, 10);
        entered(house, 3, 0);
        house.untell(2);
        entered(house, 1, 2);
        house.untell(0);
        entered(house, 0, 0);
    }

    /** "as bits": the walls in the order in which they were told, up to the twelfth. */
    private static void wallBits() {
        StringBuilder walls = new StringBuilder();
        for (int i = 0; i < 12; i++) {
            walls.append("wall ").append(i % 8).append(' ').append(i / 8).append(" above 3 from ").append(i).append(" to ")
                .append(i + 1).append(';');
        }
        for (int i = 0; i < 12; i++) {
            SoarHouse house = walled(walls.toString());
            house.fix(0, i, i, 4);
            entered(house, 1 << i, 0);
            SoarHouse maybe = walled(walls.toString());
            if (i > 0) {
                fixes(maybe, i - 1, i, i + 1, i);
                entered(maybe, 0, 1 << i);
            }
        }
        SoarHouse all = walled(walls.toString());
        for (int i = 0; i < 12; i++) {
            all.fix(0, i, i, 40);
        }
        entered(all, 4095, 0);
    }

    /** "NONE if there is no such pilot, or no TASK". */
    private static void noSuchPilotOrTask() {
        SoarHouse house = Due.on(GLIDER);
        house.pilot(0);
        house.fix(0, 0, 0, 0);
        for (int what = 0; what < 6; what++) {
            Due.is("no task: flown " + what, house.flown(0, what, 0), -1);
        }
        Due.is("no task: least", house.rounded(0, false, 0), -1);
        Due.is("no task: most", house.rounded(0, true, 0), -1);
        house.task(-1, -1, -1, 0);
        for (int far : FAR) {
            Due.is("least of " + far, house.rounded(far, false, 0), -1);
            Due.is("most of " + far, house.rounded(far, true, 0), -1);
            Due.is("flown by " + far, house.flown(far, 5, 0), -1);
        }
        Due.is("least of 1", house.rounded(1, false, 0), -1);
        Due.is("most of 1", house.rounded(1, true, 0), -1);
        Due.is("flown by 1", house.flown(1, 5, 0), -1);
        Due.is("flown by 0", house.flown(0, 5, 0), 1);
    }

    /** "NONE .. for another what". */
    private static void anotherWhat() {
        SoarHouse house = day(-1, -1, -1, 0);
        fixes(house, 0, 0);
        for (int far : FAR) {
            Due.is("what " + far, house.flown(0, far, 0), -1);
        }
        Due.is("what 5", house.flown(0, 5, 0), 1);
        Due.is("what 6", house.flown(0, 6, 0), -1);
    }
}
