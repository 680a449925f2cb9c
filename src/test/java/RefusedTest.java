import java.util.ArrayList;
import java.util.List;

/**
 * Refused calls do nothing: on one of two houses that are alike refused calls are made, on the other none; then
 * both answer a long run of questions, and of calls that change them, alike.
 */
public final class RefusedTest {
    private static final String MAP = "row 0 abcdefgh; lift a 1 2 3 4 5 6; lift b 9 9 9 9 9 9; wind 1 e 2; top 2 17;"
        + "wall 1 0 above 4 from 0 to 30; wall 3 0 above 9 from 3 to 12; field 2 0; field 4 4; road 0 0 1 0 9; road 1 0 2 0 7;"
        + "glider a sink 1 1 2 3 handicap 90; glider b sink 0 1 1 2 handicap 120;";

    /** How a house comes to be. */
    private interface State {
        SoarHouse make();
    }

    /** A call and what it must answer. */
    private interface Refused {
        int call(SoarHouse house);
    }

    public static void main(String[] args) {
        refusedWhenNew();
        refusedWhenBusy();
        refusedWhenFull();
        questionsChangeNothing();
        mapsAndLawsWithFaults();
        Due.close();
    }

    private static void alike(String name, State state, int due, Refused refused) {
        SoarHouse other = state.make();
        List<Integer> want = answers(other);
        SoarHouse house = state.make();
        Due.is(name, refused.call(house), due);
        compare(name, answers(house), want);
        SoarHouse twice = state.make();
        Due.is(name, refused.call(twice), due);
        Due.is(name + " again", refused.call(twice), due);
        compare(name + " again", answers(twice), want);
    }

    private static void compare(String name, List<Integer> got, List<Integer> want) {
        Due.is("answers behind " + name, got.size(), want.size());
        for (int i = 0; i < Math.min(got.size(), want.size()); i++) {
            Due.is("answer " + i + " behind " + name, got.get(i), want.get(i));
        }
    }

    private static int bit(boolean answer) {
        return answer ? 1 : 0;
    }

    private static SoarHouse busy() {
        SoarHouse house = Due.on(MAP);
        house.task(2, 4, -1, 0);
        house.zone(1);
        house.field(3, 2, 4);
        for (int i = 0; i < 5; i++) {
            house.launch(i % 2 == 0, 7 * i);
        }
        house.pilot(0);
        house.pilot(1);
        for (int i = 0; i < 8; i++) {
            house.fix(i % 2, 4 * i, i, i);
            house.later(i == 3 ? 2 : 0);
        }
        house.later(3);
        house.untell(2);
        house.out(1);
        house.out(2);
        Due.law(house, "score done * 10 + best - walls + time;");
        Due.law(house, "score 1 2;");
        house.soonest(0, 0, 0, 20, 3);
        Due.feed(house, "top 1 1;");
        return house;
    }

    /** As much of all as there can be, but for the time. */
    private static SoarHouse full() {
        SoarHouse house = Due.on(MAP);
        house.task(2, 4, 5, 0);
        house.field(9, 4, 9);
        for (int i = 0; i < 200; i++) {
            if (i < 8) {
                house.pilot(i % 2);
            }
            if (i < 30) {
                house.launch(i % 2 == 0, i);
            }
            if (i < 9) {
                house.out(i % 3);
            }
            house.fix(i % 8, i % 36, i % 64, i % 41);
        }
        house.untell(199);
        return house;
    }

    /** All that can be asked for, and behind that calls that change the house. */
    private static List<Integer> answers(SoarHouse house) {
        List<Integer> all = new ArrayList<>();
        for (int what = -1; what < 13; what++) {
            all.add(house.about(what));
        }
        all.add(house.fault(0));
        all.add(house.fault(1));
        for (int hour = 0; hour < 6; hour++) {
            all.add(house.lift(hour, hour));
            all.add(house.wind(hour));
            all.add(house.top(hour));
        }
        all.add(house.shut(1, 0, 5));
        all.add(house.move(0, 0, 7, 20, 9));
        all.add(house.soonest(0, 0, 0, 20, 3));
        all.add(house.way(0, 0, 0, 20, 3, 0));
        all.add(house.safe(1, 0, 0, 9));
        for (int launch : new int[] {0, 1, 4, 5, 29, 30}) {
            all.add(house.launched(launch, 0));
            all.add(house.launched(launch, 2));
        }
        for (int pilot = 0; pilot < 2; pilot++) {
            for (int k = 0; k <= 5; k += 5) {
                all.add(house.rounded(pilot, true, k));
                for (int what = 0; what < 6; what++) {
                    all.add(house.flown(pilot, what, k));
                }
                all.add(house.rank(pilot, k));
            }
        }
        all.add(house.score(1, 9));
        all.add(house.minutes(0, 2));
        all.add(house.home(0, 2));
        all.add(house.trailer(0, 2, 1));
        changes(house, all);
        return all;
    }

    private static void changes(SoarHouse house, List<Integer> all) {
        all.add(house.later(1));
        all.add(bit(house.untell(0)));
        all.add(bit(house.untell(2)));
        all.add(house.pilot(0));
        all.add(house.fix(0, 35, 2, 9));
        all.add(house.flown(0, 5, 100000));
        all.add(house.rounded(0, false, 100000));
        all.add(house.launch(true, 3));
        all.add(house.launch(false, 3));
        all.add(house.launched(5, 0));
        all.add(house.launched(6, 1));
        all.add(house.out(2));
        all.add(house.home(0, 3));
        all.add(house.feed(0x746f7020, 0x30203137, 0x3b202020, 0x20202020, 0x20202020));
        all.add(house.map());
        all.add(house.fault(0));
        all.add(house.fault(1));
        all.add(house.top(0));
        all.add(house.top(1));
        all.add(house.about(7));
    }

    private static void refusedWhenNew() {
        State state = SoarHouse::new;
        alike("end 1", state, -1, house -> house.end(1));
        alike("task without a finish", state, 0, house -> bit(house.task(-1, -1, -1, -1)));
        alike("pilot 0", state, -1, house -> house.pilot(0));
        alike("fix of nobody", state, -1, house -> house.fix(0, 0, 0, 0));
        alike("untell 0", state, 0, house -> bit(house.untell(0)));
        alike("later -1", state, -1, house -> house.later(-1));
        alike("launch 36", state, -1, house -> house.launch(true, 36));
        alike("out 64", state, -1, house -> house.out(64));
        alike("fetched", state, 0, SoarHouse::fetched);
    }

    private static void refusedWhenBusy() {
        State state = RefusedTest::busy;
        for (int n : new int[] {-1, 9, Integer.MAX_VALUE}) {
            alike("end " + n, state, -1, house -> house.end(n));
        }
        int[][] tasks = {{1, 3, 5, 64}, {64, 3, 5, 7}, {1, 64, 5, 7}, {1, 3, 64, 7}, {-1, 3, 5, 7}, {1, -1, 5, 7}, {1, 3, 5, -1},
            {-2, -1, -1, 7}, {1, -2, -1, 7}, {1, 3, -2, 7}};
        for (int[] t : tasks) {
            alike("task", state, 0, house -> bit(house.task(t[0], t[1], t[2], t[3])));
        }
        int[][] fields = {{0, 1, 1}, {10, 1, 1}, {1, 0, 1}, {1, 5, 1}, {1, 1, 0}, {1, 1, 10}};
        for (int[] f : fields) {
            alike("field", state, 0, house -> bit(house.field(f[0], f[1], f[2])));
        }
        for (int step : new int[] {-1, 36}) {
            alike("launch", state, -1, house -> house.launch(true, step));
            alike("launch", state, -1, house -> house.launch(false, step));
        }
        for (int glider : new int[] {-1, 2}) {
            alike("pilot", state, -1, house -> house.pilot(glider));
        }
        int[][] fixes = {{-1, 3, 3, 3}, {2, 3, 3, 3}, {0, -1, 3, 3}, {0, 36, 3, 3}, {0, 3, -1, 3}, {0, 3, 64, 3}, {0, 3, 3, -1},
            {0, 3, 3, 41}};
        for (int[] f : fixes) {
            alike("fix", state, -1, house -> house.fix(f[0], f[1], f[2], f[3]));
        }
        for (int fix : new int[] {-1, 2, 8}) {
            alike("untell", state, 0, house -> bit(house.untell(fix)));
        }
        for (int by : new int[] {-1, 1001, Integer.MIN_VALUE, Integer.MAX_VALUE}) {
            alike("later", state, -1, house -> house.later(by));
        }
        for (int zone : new int[] {-1, 4}) {
            alike("zone", state, 0, house -> bit(house.zone(zone)));
        }
        for (int cell : new int[] {-1, 64}) {
            alike("out", state, -1, house -> house.out(cell));
        }
    }

    private static void refusedWhenFull() {
        State state = RefusedTest::full;
        alike("a 31st launch", state, -1, house -> house.launch(true, 0));
        alike("a 31st launch", state, -1, house -> house.launch(false, 0));
        alike("a ninth pilot", state, -1, house -> house.pilot(1));
        alike("a 201st fix", state, -1, house -> house.fix(0, 0, 0, 0));
        alike("a tenth out", state, -1, house -> house.out(1));
        alike("untell what is untold", state, 0, house -> bit(house.untell(199)));
        State tape = () -> {
            SoarHouse house = busy();
            for (int i = 0; i < 95 && house.about(9) <= 1880; i++) {
                house.feed(0x20202020, 0x20202020, 0x20202020, 0x20202020, 0x20202020);
            }
            return house;
        };
        alike("feed beyond 1900", tape, -1, house -> house.feed(0x3f3f3f3f, 0, 0, 0, 0));
        alike("end beyond", tape, -1, house -> house.end(1889));
        alike("a law of too many bytes", tape, -2, SoarHouse::law);
        State late = () -> {
            SoarHouse house = busy();
            for (int i = 0; i < 99; i++) {
                house.later(1000);
            }
            return house;
        };
        alike("later than 100,000", late, -1, house -> house.later(996));
    }

    /** What is only asked for, rightly or wrongly, changes nothing. */
    private static void questionsChangeNothing() {
        State state = RefusedTest::busy;
        for (int wrong : new int[] {-1, 0, 1, 3, 99}) {
            alike("air", state, 0, house -> {
                house.lift(wrong, 0);
                house.wind(wrong);
                house.top(wrong);
                house.shut(wrong, wrong, 0);
                house.move(wrong, 0, 0, 20, 0);
                house.move(0, 0, 0, 20, wrong);
                return 0;
            });
            alike("ways", state, 0, house -> {
                house.soonest(0, 0, 0, 20, wrong);
                house.soonest(0, wrong, 0, 20, 0);
                house.way(0, 0, 0, 20, 3, wrong);
                house.way(wrong, 0, 0, 20, 3, 0);
                house.safe(0, 0, wrong, 20);
                house.safe(1, 2, 0, wrong);
                return 0;
            });
            alike("days", state, 0, house -> {
                house.launched(wrong, wrong);
                house.rounded(wrong, true, 0);
                house.flown(0, wrong, 0);
                house.flown(wrong, 0, wrong);
                house.score(wrong, 0);
                house.rank(wrong, wrong);
                house.minutes(wrong, 0);
                house.home(0, wrong);
                house.trailer(wrong, 1, 0);
                house.about(wrong);
                house.fault(wrong);
                return 0;
            });
        }
    }

    /** A MAP or LAW with a FAULT takes the TAPE and tells the FAULT; as for the rest it was never there. */
    private static void mapsAndLawsWithFaults() {
        String[] maps = {"?", "top", "top 1 1; top 1 1;", "top 1 0;", "road 1 1 1 1 1;", "row 0 hhhhhhhh; lift a 9 9 9 9 9 9;"
            + "wind 0 w 3; top 0 1; wall 0 0 above 0 from 0 to 36; field 0 0; road 0 0 2 0 1; glider x sink 9 9 9 9 handicap 77; ?"};
        for (String text : maps) {
            afterFault(text, false);
        }
        for (String text : new String[] {"?", "", "score 1", "score 1; 1", "score 1+1+1+1+1+1+1+1+1+1+1+1+1+1+1+1+1)"}) {
            afterFault(text, true);
        }
    }

    private static void afterFault(String text, boolean law) {
        SoarHouse house = busy();
        house.end(0);
        Due.is(text, law ? Due.law(house, text) : Due.map(house, text), -1);
        SoarHouse other = busy();
        other.end(0);
        Due.law(other, text.isEmpty() ? "" : "?");
        List<Integer> got = answers(house);
        List<Integer> want = answers(other);
        for (int i = 0; i < want.size(); i++) {
            // The 15th and 16th are the fault and its place.
            if (i != 14 && i != 15) {
                Due.is("answer " + i + " behind " + text, got.get(i), want.get(i));
            }
        }
    }
}
