import java.nio.charset.StandardCharsets;

/** A SoarHouse and a PlainHouse on which the same calls are made; each answer of one is due of the other. */
final class Pair {
    private static final int MOST_CALLS = 512;

    private final SoarHouse house = new SoarHouse();
    private final PlainHouse plain = new PlainHouse();
    private final String name;
    private int calls;

    Pair(String name) {
        this.name = name;
    }

    /** How many calls may still be made. */
    int left() {
        return MOST_CALLS - calls;
    }

    private int same(String call, int got, int want) {
        calls++;
        if (got != want) {
            Due.is(name + ", call " + calls + ": " + call, got, want);
        } else {
            Due.is("", 0, 0);
        }
        return want;
    }

    private boolean same(String call, boolean got, boolean want) {
        return same(call, got ? 1 : 0, want ? 1 : 0) == 1;
    }

    int feed(int a, int b, int c, int d, int e) {
        return same("feed", house.feed(a, b, c, d, e), plain.feed(a, b, c, d, e));
    }

    /** Puts a whole text on the tape, in place of what is there. */
    void text(String text) {
        byte[] bytes = text.getBytes(StandardCharsets.ISO_8859_1);
        end(0);
        for (int at = 0; at < bytes.length; at += 20) {
            feed(Due.four(bytes, at), Due.four(bytes, at + 4), Due.four(bytes, at + 8), Due.four(bytes, at + 12),
                Due.four(bytes, at + 16));
        }
        end(bytes.length);
    }

    int end(int n) {
        return same("end " + n, house.end(n), plain.end(n));
    }

    int map() {
        return same("map", house.map(), plain.map());
    }

    int law() {
        return same("law", house.law(), plain.law());
    }

    int fault(int what) {
        return same("fault " + what, house.fault(what), plain.fault(what));
    }

    int lift(int cell, int hour) {
        return same("lift " + cell + " " + hour, house.lift(cell, hour), plain.lift(cell, hour));
    }

    int wind(int hour) {
        return same("wind " + hour, house.wind(hour), plain.wind(hour));
    }

    int top(int hour) {
        return same("top " + hour, house.top(hour), plain.top(hour));
    }

    int shut(int cell, int moment, int height) {
        return same("shut " + cell + " " + moment + " " + height, house.shut(cell, moment, height),
            plain.shut(cell, moment, height));
    }

    int move(int glider, int cell, int moment, int height, int move) {
        return same("move " + glider + " " + cell + " " + moment + " " + height + " " + move,
            house.move(glider, cell, moment, height, move), plain.move(glider, cell, moment, height, move));
    }

    boolean task(int a, int b, int c, int finish) {
        return same("task " + a + " " + b + " " + c + " " + finish, house.task(a, b, c, finish), plain.task(a, b, c, finish));
    }

    int soonest(int glider, int cell, int moment, int height, int finish) {
        return same("soonest " + glider + " " + cell + " " + moment + " " + height + " " + finish,
            house.soonest(glider, cell, moment, height, finish), plain.soonest(glider, cell, moment, height, finish));
    }

    int way(int glider, int cell, int moment, int height, int finish, int k) {
        return same("way " + glider + " " + cell + " " + moment + " " + height + " " + finish + " " + k,
            house.way(glider, cell, moment, height, finish, k), plain.way(glider, cell, moment, height, finish, k));
    }

    int safe(int glider, int cell, int moment, int height) {
        return same("safe " + glider + " " + cell + " " + moment + " " + height, house.safe(glider, cell, moment, height),
            plain.safe(glider, cell, moment, height));
    }

    boolean field(int winch, int planes, int tow) {
        return same("field " + winch + " " + planes + " " + tow, house.field(winch, planes, tow),
            plain.field(winch, planes, tow));
    }

    int launch(boolean tow, int step) {
        return same("launch " + tow + " " + step, house.launch(tow, step), plain.launch(tow, step));
    }

    int launched(int launch, int what) {
        return same("launched " + launch + " " + what, house.launched(launch, what), plain.launched(launch, what));
    }

    int pilot(int glider) {
        return same("pilot " + glider, house.pilot(glider), plain.pilot(glider));
    }

    int fix(int pilot, int step, int cell, int height) {
        return same("fix " + pilot + " " + step + " " + cell + " " + height, house.fix(pilot, step, cell, height),
            plain.fix(pilot, step, cell, height));
    }

    boolean untell(int fix) {
        return same("untell " + fix, house.untell(fix), plain.untell(fix));
    }

    int later(int by) {
        return same("later " + by, house.later(by), plain.later(by));
    }

    boolean zone(int z) {
        return same("zone " + z, house.zone(z), plain.zone(z));
    }

    int rounded(int pilot, boolean most, int k) {
        return same("rounded " + pilot + " " + most + " " + k, house.rounded(pilot, most, k), plain.rounded(pilot, most, k));
    }

    int flown(int pilot, int what, int k) {
        return same("flown " + pilot + " " + what + " " + k, house.flown(pilot, what, k), plain.flown(pilot, what, k));
    }

    int score(int pilot, int k) {
        return same("score " + pilot + " " + k, house.score(pilot, k), plain.score(pilot, k));
    }

    int rank(int pilot, int k) {
        return same("rank " + pilot + " " + k, house.rank(pilot, k), plain.rank(pilot, k));
    }

    int out(int cell) {
        return same("out " + cell, house.out(cell), plain.out(cell));
    }

    int fetched() {
        return same("fetched", house.fetched(), plain.fetched());
    }

    int minutes(int a, int b) {
        return same("minutes " + a + " " + b, house.minutes(a, b), plain.minutes(a, b));
    }

    int home(int cell, int trailers) {
        return same("home " + cell + " " + trailers, house.home(cell, trailers), plain.home(cell, trailers));
    }

    int trailer(int cell, int trailers, int k) {
        return same("trailer " + cell + " " + trailers + " " + k, house.trailer(cell, trailers, k),
            plain.trailer(cell, trailers, k));
    }

    int about(int what) {
        return same("about " + what, house.about(what), plain.about(what));
    }
}
