import java.util.ArrayList;
import java.util.Arrays;
import java.util.HashMap;
import java.util.List;
import java.util.Map;
import java.util.regex.Matcher;
import java.util.regex.Pattern;

/**
 * The document once more, as plainly as can be and without a thought of speed or room: lists, maps, texts and
 * exceptions. Runs of calls are made on it and on SoarHouse side by side.
 */
final class PlainHouse {
    private static final int NONE = -1;
    private static final List<String> RESERVED = Arrays.asList(("row lift wind top wall above from to field road glider"
        + " sink handicap score and or not done legs time best first walls rounded").split(" "));
    private static final int[][] WAYS = {{0, -1}, {1, -1}, {1, 0}, {1, 1}, {0, 1}, {-1, 1}, {-1, 0}, {-1, -1}};

    private String tape = "";
    private Land land = new Land();
    private Node law;
    private Fault fault;
    private List<Integer> points;
    private int zone;
    private int winch = 1;
    private int planes = 1;
    private int tow = 2;
    private final List<int[]> launches = new ArrayList<>();
    private List<Integer> pilots = new ArrayList<>();
    private List<Fix> fixes = new ArrayList<>();
    private int time;
    private List<Integer> out = new ArrayList<>();
    // Only to be quicker: the states of the latest question, while it is of the same glider, task, map and finish.
    private Search search;

    private static final class Fault extends RuntimeException {
        private static final long serialVersionUID = 1;
        private final int number;
        private final int place;

        private Fault(int number, int place) {
            super("fault " + number + " at " + place, null, false, false);
            this.number = number;
            this.place = place;
        }
    }

    private static final class Fix {
        private int pilot;
        private int step;
        private int cell;
        private int height;
        private int told;
        private int untold = Integer.MAX_VALUE;
    }

    private static final class Wall {
        private int cell;
        private int above;
        private int from;
        private int to;

        private boolean has(int step) {
            return from <= step && step < to;
        }

        private boolean shuts(int cell, int moment, int height) {
            return this.cell == cell && height > above && has(moment);
        }
    }

    /** What a MAP tells. */
    private static final class Land {
        private final Map<Integer, String> rows = new HashMap<>();
        private final Map<Character, int[]> lifts = new HashMap<>();
        private final Map<Integer, int[]> winds = new HashMap<>();
        private final Map<Integer, Integer> tops = new HashMap<>();
        private final List<Wall> walls = new ArrayList<>();
        private final List<Integer> fields = new ArrayList<>();
        private final List<int[]> roads = new ArrayList<>();
        private final List<String> names = new ArrayList<>();
        private final List<int[]> gliders = new ArrayList<>();
        private int lines;
    }

    /** The tokens of a text; "" is its end, null what is no token. */
    private static final class Reader {
        private static final Pattern TOKEN = Pattern.compile("[a-z]+|[0-9]+|[;()<>=+*/-]");
        private final String text;
        private int place;
        private String token;
        private int units;

        private Reader(String text) {
            this.text = text;
            look();
        }

        private void look() {
            while (place < text.length() && " \n".indexOf(text.charAt(place)) >= 0) {
                place++;
            }
            if (place == text.length()) {
                token = "";
                return;
            }
            Matcher matcher = TOKEN.matcher(text).region(place, text.length());
            token = matcher.lookingAt() ? matcher.group() : null;
            if (token != null && token.matches("[a-z]{9,}|[0-9]{5,}")) {
                token = null;
            }
            if (token != null && token.matches("[0-9]+") && text.substring(matcher.end()).matches("(?s)[a-z].*")) {
                token = null;
            }
        }

        private boolean is(String wanted) {
            return wanted.equals(token);
        }

        private boolean isWord() {
            return token != null && token.matches("[a-z]+");
        }

        private boolean isNumber() {
            return token != null && token.matches("[0-9]+");
        }

        private void require(boolean can, int number) {
            if (token == null) {
                throw new Fault(1, place);
            }
            if (!can) {
                throw new Fault(number, place);
            }
        }

        private String take() {
            String taken = token;
            place += taken.length();
            look();
            return taken;
        }

        private void take(String wanted) {
            require(is(wanted), 2);
            take();
        }

        private int number(int least, int most) {
            require(isNumber(), 2);
            int number = Integer.parseInt(token);
            require(least <= number && number <= most, 4);
            take();
            return number;
        }
    }

    private static Land readLand(String text) {
        Land land = new Land();
        Reader in = new Reader(text);
        while (!in.is("")) {
            in.require(in.isWord(), 2);
            switch (in.token) {
                case "row": readRow(land, in); break;
                case "lift": readLift(land, in); break;
                case "wind": readWind(land, in); break;
                case "top": readTop(land, in); break;
                case "wall": readWall(land, in); break;
                case "field": readField(land, in); break;
                case "road": readRoad(land, in); break;
                case "glider": readGlider(land, in); break;
                default: in.require(false, 2);
            }
            in.take(";");
            land.lines++;
        }
        return land;
    }

    private static void readRow(Land land, Reader in) {
        in.take();
        int place = in.place;
        int y = in.number(0, 7);
        if (land.rows.containsKey(y)) {
            throw new Fault(3, place);
        }
        in.require(in.isWord(), 2);
        in.require(in.token.matches("[a-h]{8}"), 4);
        land.rows.put(y, in.take());
    }

    private static void readLift(Land land, Reader in) {
        in.take();
        in.require(in.isWord(), 2);
        in.require(in.token.matches("[a-h]"), 4);
        in.require(!land.lifts.containsKey(in.token.charAt(0)), 3);
        char ground = in.take().charAt(0);
        int[] lifts = new int[6];
        for (int hour = 0; hour < 6; hour++) {
            lifts[hour] = in.number(0, 20);
        }
        land.lifts.put(ground, lifts);
    }

    private static void readWind(Land land, Reader in) {
        in.take();
        int place = in.place;
        int hour = in.number(0, 5);
        if (land.winds.containsKey(hour)) {
            throw new Fault(3, place);
        }
        in.require(in.isWord() && in.token.matches("[nesw]"), 2);
        int towards = "nesw".indexOf(in.take());
        land.winds.put(hour, new int[] {in.number(0, 3), towards});
    }

    private static void readTop(Land land, Reader in) {
        in.take();
        int place = in.place;
        int hour = in.number(0, 5);
        if (land.tops.containsKey(hour)) {
            throw new Fault(3, place);
        }
        land.tops.put(hour, in.number(1, 40));
    }

    private static void readWall(Land land, Reader in) {
        in.require(land.walls.size() < 12, 2);
        in.take();
        Wall wall = new Wall();
        wall.cell = in.number(0, 7) + 8 * in.number(0, 7);
        in.take("above");
        wall.above = in.number(0, 40);
        in.take("from");
        wall.from = in.number(0, 36);
        in.take("to");
        wall.to = in.number(wall.from + 1, 36);
        land.walls.add(wall);
    }

    private static void readField(Land land, Reader in) {
        in.take();
        int x = in.number(0, 7);
        int place = in.place;
        int cell = x + 8 * in.number(0, 7);
        if (land.fields.contains(cell)) {
            throw new Fault(3, place);
        }
        land.fields.add(cell);
    }

    private static void readRoad(Land land, Reader in) {
        in.require(land.roads.size() < 20, 2);
        in.take();
        int a = in.number(0, 7) + 8 * in.number(0, 7);
        int x = in.number(0, 7);
        int place = in.place;
        int b = x + 8 * in.number(0, 7);
        if (a == b) {
            throw new Fault(5, place);
        }
        land.roads.add(new int[] {a, b, in.number(1, 99)});
    }

    private static void readGlider(Land land, Reader in) {
        in.require(land.gliders.size() < 4, 2);
        in.take();
        in.require(in.isWord() && !RESERVED.contains(in.token), 2);
        in.require(!land.names.contains(in.token), 3);
        String name = in.take();
        in.take("sink");
        int[] glider = new int[5];
        for (int i = 0; i < 4; i++) {
            glider[i] = in.number(0, 30);
        }
        in.take("handicap");
        glider[4] = in.number(50, 200);
        land.names.add(name);
        land.gliders.add(glider);
    }

    /** A part of a LAW: what it does, or a number, or what it asks of a pilot. */
    private static final class Node {
        private final String does;
        private final Node[] parts;

        private Node(String does, Node... parts) {
            this.does = does;
            this.parts = parts;
        }

        private int value(Map<String, Integer> of) {
            if (parts.length == 0) {
                return of.containsKey(does) ? of.get(does) : Integer.parseInt(does);
            }
            int a = parts[0].value(of);
            int b = parts[parts.length - 1].value(of);
            switch (does) {
                case "+": return a + b;
                case "-": return a - b;
                case "*": return a * b;
                case "/": return b == 0 ? 0 : a / b;
                case "<": return a < b ? 1 : 0;
                case ">": return a > b ? 1 : 0;
                case "=": return a == b ? 1 : 0;
                case "and": return a != 0 && b != 0 ? 1 : 0;
                case "or": return a != 0 || b != 0 ? 1 : 0;
                case "not": return a != 0 ? 0 : 1;
                default: throw new IllegalStateException(does);
            }
        }
    }

    private static Node readLaw(String text) {
        Reader in = new Reader(text);
        in.take("score");
        Node e = chain(in, 0, 0);
        in.take(";");
        in.require(in.is(""), 2);
        return e;
    }

    private static final String[][] JOINS = {{"or"}, {"and"}, {"<", ">", "="}, {"+", "-"}, {"*", "/"}};

    /** What binds by the joins of a level and those behind it, within so many others. */
    private static Node chain(Reader in, int level, int within) {
        if (level == JOINS.length) {
            return unit(in, within);
        }
        if (level == 2 && in.is("not")) {
            in.require(within <= 6, 2);
            in.take();
            return new Node("not", chain(in, 2, within + 1));
        }
        Node left = chain(in, level + 1, within);
        while (in.token != null && Arrays.asList(JOINS[level]).contains(in.token)) {
            String join = in.take();
            left = new Node(join, left, chain(in, level + 1, within));
            if (level == 2) {
                break;
            }
        }
        return left;
    }

    private static Node unit(Reader in, int within) {
        in.units++;
        in.require(in.units <= 60, 2);
        if (in.is("(")) {
            in.require(within <= 6, 2);
            in.take();
            Node e = chain(in, 0, within + 1);
            in.take(")");
            return e;
        }
        in.require(in.isNumber() || in.isWord() && in.token.matches("done|legs|time|handicap|best|first|walls|rounded"), 2);
        return new Node(in.take());
    }

    private static boolean in(int value, int least, int most) {
        return least <= value && value <= most;
    }

    private static boolean isCell(int cell) {
        return in(cell, 0, 63);
    }

    private static int apart(int a, int b) {
        return Math.max(Math.abs(a % 8 - b % 8), Math.abs(a / 8 - b / 8));
    }

    int feed(int... fours) {
        if (tape.length() + 20 > 1900) {
            return NONE;
        }
        StringBuilder more = new StringBuilder(tape);
        for (int four : fours) {
            more.append((char) (four >> 24 & 255)).append((char) (four >> 16 & 255)).append((char) (four >> 8 & 255))
                .append((char) (four & 255));
        }
        tape = more.toString();
        return tape.length();
    }

    int end(int n) {
        if (!in(n, 0, tape.length())) {
            return NONE;
        }
        tape = tape.substring(0, n);
        return n;
    }

    int map() {
        String text = tape;
        tape = "";
        try {
            land = readLand(text);
        } catch (Fault found) {
            fault = found;
            return NONE;
        }
        fault = null;
        pilots = new ArrayList<>();
        fixes = new ArrayList<>();
        out = new ArrayList<>();
        return land.lines;
    }

    int law() {
        if (tape.length() > 500) {
            return -2;
        }
        String text = tape;
        tape = "";
        try {
            law = readLaw(text);
        } catch (Fault found) {
            fault = found;
            return NONE;
        }
        fault = null;
        return 1;
    }

    int fault(int what) {
        if (what == 0) {
            return fault == null ? 0 : fault.number;
        }
        return what == 1 && fault != null ? fault.place : NONE;
    }

    int lift(int cell, int hour) {
        if (!isCell(cell) || !in(hour, 0, 5)) {
            return NONE;
        }
        char ground = land.rows.getOrDefault(cell / 8, "aaaaaaaa").charAt(cell % 8);
        return land.lifts.containsKey(ground) ? land.lifts.get(ground)[hour] : 0;
    }

    private int[] windOf(int hour) {
        return hour < 0 ? new int[] {0, 0} : land.winds.containsKey(hour) ? land.winds.get(hour) : windOf(hour - 1);
    }

    int wind(int hour) {
        return in(hour, 0, 5) ? 4 * windOf(hour)[0] + windOf(hour)[1] : NONE;
    }

    private int topOf(int hour) {
        return hour < 0 ? 40 : land.tops.containsKey(hour) ? land.tops.get(hour) : topOf(hour - 1);
    }

    int top(int hour) {
        return in(hour, 0, 5) ? topOf(hour) : NONE;
    }

    int shut(int cell, int moment, int height) {
        if (!isPlace(cell, moment, height)) {
            return NONE;
        }
        for (Wall wall : land.walls) {
            if (wall.shuts(cell, moment, height)) {
                return 1;
            }
        }
        return 0;
    }

    private static boolean isPlace(int cell, int moment, int height) {
        return isCell(cell) && in(moment, 0, 36) && in(height, 0, 40);
    }

    int move(int glider, int cell, int moment, int height, int move) {
        if (!in(glider, 0, land.gliders.size() - 1) || !isPlace(cell, moment, height) || !in(move, 0, 24) || moment == 36) {
            return NONE;
        }
        int[] sinks = land.gliders.get(glider);
        int hour = moment / 6;
        if (move == 0) {
            int that = height + lift(cell, hour) - sinks[0];
            if (that > topOf(hour) && that > height) {
                that = Math.max(topOf(hour), height);
            }
            return ended(cell % 8, cell / 8, moment + 1, that);
        }
        int d = (move - 1) / 3;
        int s = (move - 1) % 3;
        int[] blows = windOf(hour);
        int[] towards = WAYS[2 * blows[1]];
        int c = WAYS[d][0] * towards[0] + WAYS[d][1] * towards[1];
        int sink = sinks[1 + s];
        int loses = Math.max(0, sink + (d % 2 == 1 ? sink / 2 : 0) - blows[0] * c);
        int steps = s == 0 ? 3 : s == 1 ? 2 : 1;
        return ended(cell % 8 + WAYS[d][0], cell / 8 + WAYS[d][1], moment + steps, height - loses);
    }

    private int ended(int x, int y, int moment, int height) {
        if (!in(x, 0, 7) || !in(y, 0, 7) || moment > 36 || height < 0 || shut(8 * y + x, moment, height) == 1) {
            return NONE;
        }
        return 6400 * height + 100 * moment + 8 * y + x;
    }

    boolean task(int a, int b, int c, int finish) {
        List<Integer> told = new ArrayList<>();
        boolean ended = false;
        for (int point : new int[] {a, b, c}) {
            if (point == NONE) {
                ended = true;
            } else if (ended || !isCell(point)) {
                return false;
            } else {
                told.add(point);
            }
        }
        if (!isCell(finish)) {
            return false;
        }
        told.add(finish);
        points = told;
        return true;
    }

    private int stage(int cell, int before) {
        return before < points.size() - 1 && points.get(before) == cell ? stage(cell, before + 1) : before;
    }

    /** The soonest moments by state, found once each. */
    private final class Search {
        private final byte[] found = new byte[4 * 6400 * 41];
        private final Land over = land;
        private final List<Integer> task = points;
        private final int glider;
        private final int finish;

        private Search(int glider, int finish) {
            this.glider = glider;
            this.finish = finish;
        }

        private boolean isOf(int glider, int finish) {
            return over == land && task == points && this.glider == glider && this.finish == finish;
        }

        private int soonest(int stage, int state) {
            int key = 4 * state + stage;
            if (found[key] != 0) {
                return found[key] - 1;
            }
            int cell = state % 100;
            int moment = state / 100 % 64;
            int height = state / 6400;
            int best = 99;
            if (stage == points.size() - 1 && cell == points.get(stage) && height >= finish) {
                best = moment;
            } else {
                for (int move = 0; move < 25; move++) {
                    int to = move(glider, cell, moment, height, move);
                    if (to != NONE) {
                        best = Math.min(best, soonest(stage(to % 100, stage), to));
                    }
                }
            }
            found[key] = (byte) (best + 1);
            return best;
        }
    }

    /** The soonest moment and behind it the moves; null if there is none. */
    private List<Integer> fly(int glider, int cell, int moment, int height, int finish) {
        if (points == null || !in(glider, 0, land.gliders.size() - 1) || !in(finish, 0, 40)
            || shut(cell, moment, height) != 0) {
            return null;
        }
        if (search == null || !search.isOf(glider, finish)) {
            search = new Search(glider, finish);
        }
        int state = 6400 * height + 100 * moment + cell;
        int stage = stage(cell, 0);
        int due = search.soonest(stage, state);
        if (due == 99) {
            return null;
        }
        List<Integer> way = new ArrayList<>();
        way.add(due);
        while (state / 100 % 64 < due) {
            for (int move = 0; move < 25; move++) {
                int to = move(glider, state % 100, state / 100 % 64, state / 6400, move);
                if (to != NONE && search.soonest(stage(to % 100, stage), to) == due) {
                    way.add(move);
                    stage = stage(to % 100, stage);
                    state = to;
                    break;
                }
            }
        }
        return way;
    }

    int soonest(int glider, int cell, int moment, int height, int finish) {
        List<Integer> way = fly(glider, cell, moment, height, finish);
        return way == null ? NONE : way.get(0);
    }

    int way(int glider, int cell, int moment, int height, int finish, int k) {
        List<Integer> way = fly(glider, cell, moment, height, finish);
        return way == null || k < 0 || k >= way.size() - 1 ? NONE : way.get(k + 1);
    }

    int safe(int glider, int cell, int moment, int height) {
        if (!in(glider, 0, land.gliders.size() - 1) || shut(cell, moment, height) != 0) {
            return NONE;
        }
        List<Integer> states = new ArrayList<>();
        Map<Integer, Boolean> seen = new HashMap<>();
        states.add(6400 * height + 100 * moment + cell);
        seen.put(states.get(0), true);
        boolean[] come = new boolean[64];
        for (int i = 0; i < states.size(); i++) {
            int state = states.get(i);
            come[state % 100] = true;
            for (int move = 1; move < 25; move++) {
                int to = move(glider, state % 100, state / 100 % 64, state / 6400, move);
                if (to != NONE && seen.put(to, true) == null) {
                    states.add(to);
                }
            }
        }
        return (int) land.fields.stream().filter(field -> come[field]).count();
    }

    boolean field(int winch, int planes, int tow) {
        if (!in(winch, 1, 9) || !in(planes, 1, 4) || !in(tow, 1, 9)) {
            return false;
        }
        this.winch = winch;
        this.planes = planes;
        this.tow = tow;
        launches.clear();
        return true;
    }

    /** When the winch (plane -1), or a plane, is free behind all launches that were asked for. */
    private int freeAt(int plane) {
        int free = 0;
        for (int[] launch : launches) {
            if (launch[0] != NONE && launch[3] == plane) {
                free = launch[1];
            }
        }
        return free;
    }

    int launch(boolean tow, int step) {
        if (!in(step, 0, 35) || launches.size() == 30) {
            return NONE;
        }
        int by = tow ? 0 : -1;
        for (int plane = 1; tow && plane < planes; plane++) {
            by = freeAt(plane) < freeAt(by) ? plane : by;
        }
        int begin = Math.max(step, freeAt(by));
        boolean never = begin > 35;
        launches.add(never ? new int[] {NONE, NONE, NONE, NONE}
            : new int[] {begin, begin + (tow ? this.tow : winch), Math.max(0, by), by});
        return launches.size() - 1;
    }

    int launched(int launch, int what) {
        return in(launch, 0, launches.size() - 1) && in(what, 0, 2) ? launches.get(launch)[what] : NONE;
    }

    int pilot(int glider) {
        if (!in(glider, 0, land.gliders.size() - 1) || pilots.size() == 8) {
            return NONE;
        }
        pilots.add(glider);
        return pilots.size() - 1;
    }

    int fix(int pilot, int step, int cell, int height) {
        if (!in(pilot, 0, pilots.size() - 1) || !in(step, 0, 35) || !isCell(cell) || !in(height, 0, 40)
            || fixes.size() == 200) {
            return NONE;
        }
        Fix fix = new Fix();
        fix.pilot = pilot;
        fix.step = step;
        fix.cell = cell;
        fix.height = height;
        fix.told = time;
        fixes.add(fix);
        return fixes.size() - 1;
    }

    boolean untell(int fix) {
        if (!in(fix, 0, fixes.size() - 1) || fixes.get(fix).untold != Integer.MAX_VALUE) {
            return false;
        }
        fixes.get(fix).untold = time;
        return true;
    }

    int later(int by) {
        if (!in(by, 0, 1000) || time + by > 100000) {
            return NONE;
        }
        time += by;
        return time;
    }

    boolean zone(int z) {
        if (!in(z, 0, 3)) {
            return false;
        }
        zone = z;
        return true;
    }

    private List<Fix> known(int pilot, int k) {
        Fix[] last = new Fix[36];
        for (Fix fix : fixes) {
            boolean untold = fix.untold != Integer.MAX_VALUE && fix.untold <= k;
            if (fix.pilot == pilot && fix.told <= k && !untold) {
                last[fix.step] = fix;
            }
        }
        List<Fix> known = new ArrayList<>();
        for (Fix fix : last) {
            if (fix != null) {
                known.add(fix);
            }
        }
        return known;
    }

    /** The places in the list of those FIXES that ROUNDED (least), point by point. */
    private List<Integer> roundedBy(List<Fix> known) {
        List<Integer> by = new ArrayList<>();
        int i = 0;
        for (int point : points) {
            while (i < known.size() && apart(known.get(i).cell, point) > zone) {
                i++;
            }
            if (i == known.size()) {
                break;
            }
            by.add(i);
        }
        return by;
    }

    private boolean isNobody(int pilot) {
        return points == null || !in(pilot, 0, pilots.size() - 1);
    }

    int rounded(int pilot, boolean most, int k) {
        if (isNobody(pilot)) {
            return NONE;
        }
        List<Fix> known = known(pilot, k);
        return most ? most(known) : roundedBy(known).size();
    }

    private int most(List<Fix> known) {
        int next = 0;
        for (int i = 0; i < known.size(); i++) {
            Fix a = known.get(i);
            while (next < points.size() && apart(a.cell, points.get(next)) <= zone) {
                next++;
            }
            if (next < points.size() && i < known.size() - 1) {
                Fix b = known.get(i + 1);
                int there = Math.max(apart(a.cell, points.get(next)) - zone, 0);
                int onward = Math.max(apart(b.cell, points.get(next)) - zone, 0);
                next += there + onward <= b.step - a.step ? 1 : 0;
            }
        }
        return next;
    }

    int flown(int pilot, int what, int k) {
        if (isNobody(pilot) || !in(what, 0, 5)) {
            return NONE;
        }
        List<Fix> known = known(pilot, k);
        switch (what) {
            case 0: return done(known);
            case 1: return known.isEmpty() ? 0 : legs(known).stream().mapToInt(Integer::intValue).sum();
            case 2: return Math.max(0, timeOf(known));
            case 3: return sure(known);
            case 4: return maybe(known) & ~sure(known);
            default: return known.size();
        }
    }

    private List<Integer> legs(List<Fix> known) {
        List<Integer> legs = new ArrayList<>();
        int from = known.get(0).cell;
        for (int point : points) {
            legs.add(apart(from, point));
            from = point;
        }
        return legs;
    }

    private int done(List<Fix> known) {
        if (known.isEmpty()) {
            return 0;
        }
        List<Integer> by = roundedBy(known);
        List<Integer> legs = legs(known);
        int done = 0;
        for (int i = 0; i < by.size(); i++) {
            done += legs.get(i);
        }
        if (by.size() == points.size()) {
            return done;
        }
        int nearest = 99;
        for (int i = by.isEmpty() ? 0 : by.get(by.size() - 1); i < known.size(); i++) {
            nearest = Math.min(nearest, apart(known.get(i).cell, points.get(by.size())));
        }
        return done + Math.max(0, legs.get(by.size()) - nearest);
    }

    /** TIME, or NONE of one who has not ROUNDED all. */
    private int timeOf(List<Fix> known) {
        List<Integer> by = roundedBy(known);
        return by.size() < points.size() ? NONE : known.get(by.get(by.size() - 1)).step - known.get(0).step;
    }

    private int sure(List<Fix> known) {
        int bits = 0;
        for (Fix fix : known) {
            for (int w = 0; w < land.walls.size(); w++) {
                bits |= land.walls.get(w).shuts(fix.cell, fix.step, fix.height) ? 1 << w : 0;
            }
        }
        return bits;
    }

    private int maybe(List<Fix> known) {
        int bits = 0;
        for (int i = 1; i < known.size(); i++) {
            Fix a = known.get(i - 1);
            Fix b = known.get(i);
            for (int t = a.step + 1; t <= b.step - 1; t++) {
                for (int w = 0; w < land.walls.size(); w++) {
                    Wall wall = land.walls.get(w);
                    boolean can = wall.has(t) && apart(a.cell, wall.cell) <= t - a.step
                        && apart(wall.cell, b.cell) <= b.step - t;
                    bits |= can ? 1 << w : 0;
                }
            }
        }
        return bits;
    }

    int score(int pilot, int k) {
        if (isNobody(pilot)) {
            return NONE;
        }
        if (law == null) {
            return 0;
        }
        int best = 0;
        int first = NONE;
        for (int other = 0; other < pilots.size(); other++) {
            List<Fix> known = known(other, k);
            best = Math.max(best, done(known));
            int time = timeOf(known);
            first = time != NONE && (first == NONE || time < first) ? time : first;
        }
        Map<String, Integer> of = new HashMap<>();
        of.put("done", flown(pilot, 0, k));
        of.put("legs", flown(pilot, 1, k));
        of.put("time", flown(pilot, 2, k));
        of.put("walls", Integer.bitCount(flown(pilot, 3, k)));
        of.put("handicap", land.gliders.get(pilots.get(pilot))[4]);
        of.put("rounded", rounded(pilot, false, k));
        of.put("best", best);
        of.put("first", Math.max(0, first));
        return Math.max(0, law.value(of));
    }

    int rank(int pilot, int k) {
        if (isNobody(pilot)) {
            return NONE;
        }
        int rank = 1;
        for (int other = 0; other < pilots.size(); other++) {
            rank += score(other, k) > score(pilot, k) ? 1 : 0;
        }
        return rank;
    }

    int out(int cell) {
        if (!isCell(cell) || out.size() == 9) {
            return NONE;
        }
        out.add(cell);
        return out.size();
    }

    int fetched() {
        int were = out.size();
        out.clear();
        return were;
    }

    int minutes(int a, int b) {
        if (!isCell(a) || !isCell(b)) {
            return NONE;
        }
        int[] far = new int[64];
        Arrays.fill(far, 99999);
        far[a] = 0;
        for (int i = 0; i < 64; i++) {
            for (int[] road : land.roads) {
                far[road[1]] = Math.min(far[road[1]], far[road[0]] + road[2]);
                far[road[0]] = Math.min(far[road[0]], far[road[1]] + road[2]);
            }
        }
        return far[b] >= 99999 ? NONE : far[b];
    }

    /** HOME, and behind it the trailer of each glider; null if it can't be. */
    private int[] bring(int cell, int trailers) {
        if (!isCell(cell) || !in(trailers, 1, 3)) {
            return null;
        }
        int[] fetch = new int[out.size()];
        for (int i = 0; i < fetch.length; i++) {
            int minutes = minutes(cell, out.get(i));
            if (minutes == NONE) {
                return null;
            }
            fetch[i] = 2 * minutes;
        }
        int ways = (int) Math.round(Math.pow(trailers, fetch.length));
        int[] best = null;
        for (int way = 0; way < ways; way++) {
            int[] loads = new int[3];
            int[] found = new int[fetch.length + 1];
            for (int i = fetch.length - 1, rest = way; i >= 0; i--, rest /= trailers) {
                found[i + 1] = rest % trailers;
                loads[rest % trailers] += fetch[i];
            }
            found[0] = Math.max(loads[0], Math.max(loads[1], loads[2]));
            best = best == null || found[0] < best[0] ? found : best;
        }
        return best;
    }

    int home(int cell, int trailers) {
        int[] brought = bring(cell, trailers);
        return brought == null ? NONE : brought[0];
    }

    int trailer(int cell, int trailers, int k) {
        int[] brought = bring(cell, trailers);
        return brought == null || !in(k, 0, out.size() - 1) ? NONE : brought[k + 1];
    }

    int about(int what) {
        int[] counts = {land.walls.size(), land.fields.size(), land.roads.size(), land.gliders.size(), pilots.size(),
            fixes.size(), time, launches.size(), out.size(), tape.length(), points == null ? 0 : 1, law == null ? 0 : 1};
        return in(what, 0, 11) ? counts[what] : NONE;
    }
}
