import java.util.Arrays;

/** A house for flying without an engine: its map, ways, launches, traces, scores and trailers. */
public final class SoarHouse {
    public static final int NONE = -1;

    private static final int SIDE = 8;
    private static final int CELLS = 64;
    private static final int STEPS = 36;
    private static final int HOURS = 6;
    private static final int STEPS_PER_HOUR = 6;
    private static final int MOST_HEIGHT = 40;
    private static final int DIRECTIONS = 8;
    private static final int SPEEDS = 3;
    private static final int MOVES = 25;
    private static final int MOST_BYTES = 1900;
    private static final int MOST_LAW_BYTES = 500;
    private static final int FED_BYTES = 20;
    private static final int MOST_WALLS = 12;
    private static final int MOST_ROADS = 20;
    private static final int MOST_GLIDERS = 4;
    private static final int MOST_PILOTS = 8;
    private static final int MOST_FIXES = 200;
    private static final int MOST_LAUNCHES = 30;
    private static final int MOST_PLANES = 4;
    private static final int MOST_TAKEN = 9;
    private static final int MOST_OUT = 9;
    private static final int MOST_TRAILERS = 3;
    private static final int MOST_TURNS = 3;
    private static final int MOST_ZONE = 3;
    private static final int MOST_LATER = 1000;
    private static final int LAST_TIME = 100000;
    private static final int TOO_LONG = -2;

    // 0 north, 1 north-east, 2 east, .. 7 north-west; the wind's four are every second one.
    private static final int[] DX = {0, 1, 1, 1, 0, -1, -1, -1};
    private static final int[] DY = {-1, -1, 0, 1, 1, 1, 0, -1};

    private static final int FAULT_NO_TOKEN = 1;
    private static final int FAULT_PLACE = 2;
    private static final int FAULT_TOLD = 3;
    private static final int FAULT_VALUE = 4;
    private static final int FAULT_SAME = 5;

    // A word's number is its place among these.
    private static final String WORDS = "row lift wind top wall above from to field road glider sink handicap score and or not done legs time best first walls rounded ";
    private static final int WORD_ROW = 0;
    private static final int WORD_LIFT = 1;
    private static final int WORD_WIND = 2;
    private static final int WORD_TOP = 3;
    private static final int WORD_WALL = 4;
    private static final int WORD_ABOVE = 5;
    private static final int WORD_FROM = 6;
    private static final int WORD_TO = 7;
    private static final int WORD_FIELD = 8;
    private static final int WORD_ROAD = 9;
    private static final int WORD_GLIDER = 10;
    private static final int WORD_SINK = 11;
    private static final int WORD_HANDICAP = 12;
    private static final int WORD_SCORE = 13;
    private static final int WORD_AND = 14;
    private static final int WORD_OR = 15;
    private static final int WORD_NOT = 16;
    private static final int WORD_DONE = 17;
    private static final int WORD_ROUNDED = 23;

    // What a law may ask of a pilot, in the order of its words from done on; handicap is last.
    private static final int OF_DONE = 0;
    private static final int OF_LEGS = 1;
    private static final int OF_TIME = 2;
    private static final int OF_BEST = 3;
    private static final int OF_FIRST = 4;
    private static final int OF_WALLS = 5;
    private static final int OF_ROUNDED = 6;
    private static final int OF_HANDICAP = 7;
    private static final int OF_COUNT = 8;

    private final int[] tape = new int[MOST_BYTES];
    private int bytes;
    private final Tokens tokens = new Tokens(tape);
    private Plan plan = new Plan();
    private Plan spare = new Plan();
    private final PlanReader planReader = new PlanReader(tokens, spare);
    private final Law law = new Law(tokens);
    private int faultNumber;
    private int faultPlace = NONE;
    private final Course course = new Course();
    private final Flight flight = new Flight(plan, course);
    private final Launches launches = new Launches();
    private final Traces traces = new Traces();
    private final Trace trace = new Trace();
    private final Scores scores = new Scores();
    private final Trailers trailers = new Trailers();

    public SoarHouse() {
    }

    public int feed(int a, int b, int c, int d, int e) {
        if (bytes + FED_BYTES > MOST_BYTES) {
            return NONE;
        }
        putFour(a);
        putFour(b);
        putFour(c);
        putFour(d);
        putFour(e);
        return bytes;
    }

    public int end(int n) {
        if (n < 0 || n > bytes) {
            return NONE;
        }
        bytes = n;
        return n;
    }

    public int map() {
        boolean read = planReader.read(spare, bytes);
        keepFault();
        bytes = 0;
        if (!read) {
            return NONE;
        }
        Plan old = plan;
        plan = spare;
        spare = old;
        traces.clear();
        trailers.clear();
        flight.forget();
        return plan.lines;
    }

    public int law() {
        if (bytes > MOST_LAW_BYTES) {
            return TOO_LONG;
        }
        boolean read = law.read(bytes);
        keepFault();
        bytes = 0;
        return read ? 1 : NONE;
    }

    public int fault(int what) {
        switch (what) {
            case 0: return faultNumber;
            case 1: return faultPlace;
            default: return NONE;
        }
    }

    public int lift(int cell, int hour) {
        return isCell(cell) && isHour(hour) ? plan.liftOf(cell, hour) : NONE;
    }

    public int wind(int hour) {
        return isHour(hour) ? plan.windIn(hour) : NONE;
    }

    public int top(int hour) {
        return isHour(hour) ? plan.topIn(hour) : NONE;
    }

    public int shut(int cell, int moment, int height) {
        if (!isPlace(cell, moment, height)) {
            return NONE;
        }
        return height > plan.ceilingOf(cell, moment) ? 1 : 0;
    }

    public int move(int glider, int cell, int moment, int height, int move) {
        if (!plan.hasGlider(glider) || !isPlace(cell, moment, height) || move < 0 || move >= MOVES) {
            return NONE;
        }
        return plan.moved(glider, cell, moment, height, move);
    }

    public boolean task(int a, int b, int c, int finish) {
        if (!course.take(a, b, c, finish)) {
            return false;
        }
        flight.forget();
        return true;
    }

    public int soonest(int glider, int cell, int moment, int height, int finish) {
        return fly(glider, cell, moment, height, finish) ? flight.flown : NONE;
    }

    public int way(int glider, int cell, int moment, int height, int finish, int k) {
        if (!fly(glider, cell, moment, height, finish)) {
            return NONE;
        }
        return k >= 0 && k < flight.moveCount ? flight.moves[k] : NONE;
    }

    public int safe(int glider, int cell, int moment, int height) {
        if (!canBegin(glider, cell, moment, height)) {
            return NONE;
        }
        return flight.fieldsInReach(plan, glider, cell, moment, height);
    }

    public boolean field(int winch, int planes, int tow) {
        return launches.equip(winch, planes, tow);
    }

    public int launch(boolean tow, int step) {
        return launches.ask(tow, step);
    }

    public int launched(int launch, int what) {
        return launches.tell(launch, what);
    }

    public int pilot(int glider) {
        return plan.hasGlider(glider) ? traces.addPilot(glider) : NONE;
    }

    public int fix(int pilot, int step, int cell, int height) {
        if (!traces.hasPilot(pilot) || !isPlace(cell, step, height) || step >= STEPS) {
            return NONE;
        }
        return traces.addFix(pilot, step, cell, height);
    }

    public boolean untell(int fix) {
        return traces.takeBack(fix);
    }

    public int later(int by) {
        return traces.goOn(by);
    }

    public boolean zone(int z) {
        if (z < 0 || z > MOST_ZONE) {
            return false;
        }
        course.zone = z;
        return true;
    }

    public int rounded(int pilot, boolean most, int k) {
        if (!canJudge(pilot)) {
            return NONE;
        }
        trace.gather(traces, pilot, k);
        if (most) {
            return trace.mostRounded(course);
        }
        trace.roundLeast(course);
        return trace.rounded;
    }

    public int flown(int pilot, int what, int k) {
        if (!canJudge(pilot)) {
            return NONE;
        }
        trace.gather(traces, pilot, k);
        trace.roundLeast(course);
        switch (what) {
            case 0: return trace.doneOn(course);
            case 1: return trace.legsOf(course);
            case 2: return trace.timeOn(course);
            case 3: return trace.wallsForSure(plan);
            case 4: return trace.wallsMaybe(plan);
            case 5: return trace.count;
            default: return NONE;
        }
    }

    public int score(int pilot, int k) {
        if (!canJudge(pilot)) {
            return NONE;
        }
        scores.weigh(plan, course, traces, trace, k);
        return scores.scoreOf(law, pilot);
    }

    public int rank(int pilot, int k) {
        if (!canJudge(pilot)) {
            return NONE;
        }
        scores.weigh(plan, course, traces, trace, k);
        return scores.rankOf(law, pilot, traces.pilots);
    }

    public int out(int cell) {
        return isCell(cell) ? trailers.lay(cell) : NONE;
    }

    public int fetched() {
        return trailers.clear();
    }

    public int minutes(int a, int b) {
        if (!isCell(a) || !isCell(b)) {
            return NONE;
        }
        return trailers.minutesBetween(plan, a, b);
    }

    public int home(int cell, int trailers) {
        return bringHome(cell, trailers) ? this.trailers.best : NONE;
    }

    public int trailer(int cell, int trailers, int k) {
        if (!bringHome(cell, trailers) || k < 0 || k >= this.trailers.count) {
            return NONE;
        }
        return this.trailers.chosen[k];
    }

    public int about(int what) {
        switch (what) {
            case 0: return plan.walls;
            case 1: return Long.bitCount(plan.fields);
            case 2: return plan.roads;
            case 3: return plan.gliders;
            case 4: return traces.pilots;
            case 5: return traces.fixes;
            case 6: return traces.time;
            case 7: return launches.count;
            case 8: return trailers.count;
            case 9: return bytes;
            case 10: return course.count > 0 ? 1 : 0;
            case 11: return law.length > 0 ? 1 : 0;
            default: return NONE;
        }
    }

    private void putFour(int four) {
        for (int shift = 24; shift >= 0; shift -= 8) {
            tape[bytes] = (four >>> shift) & 255;
            bytes++;
        }
    }

    private void keepFault() {
        faultNumber = tokens.fault;
        faultPlace = tokens.faultPlace;
    }

    private boolean canBegin(int glider, int cell, int moment, int height) {
        return plan.hasGlider(glider) && isPlace(cell, moment, height)
            && height <= plan.ceilingOf(cell, moment);
    }

    private boolean fly(int glider, int cell, int moment, int height, int finish) {
        if (course.count == 0 || !isHeight(finish) || !canBegin(glider, cell, moment, height)) {
            return false;
        }
        if (!flight.knows(glider, cell, moment, height, finish)) {
            flight.search(plan, course);
            flight.walk();
        }
        return flight.flown != NONE;
    }

    private boolean canJudge(int pilot) {
        return course.count > 0 && traces.hasPilot(pilot);
    }

    private boolean bringHome(int cell, int number) {
        if (!isCell(cell) || number < 1 || number > MOST_TRAILERS) {
            return false;
        }
        return trailers.share(plan, cell, number);
    }

    private static boolean isCell(int cell) {
        return cell >= 0 && cell < CELLS;
    }

    private static boolean isHour(int hour) {
        return hour >= 0 && hour < HOURS;
    }

    private static boolean isHeight(int height) {
        return height >= 0 && height <= MOST_HEIGHT;
    }

    private static boolean isPlace(int cell, int moment, int height) {
        return isCell(cell) && moment >= 0 && moment <= STEPS && isHeight(height);
    }

    /** The cell next to a cell by a direction, or NONE at the map's edge. */
    private static int neighbour(int cell, int direction) {
        int x = cell % SIDE + DX[direction];
        int y = cell / SIDE + DY[direction];
        return x < 0 || x >= SIDE || y < 0 || y >= SIDE ? NONE : SIDE * y + x;
    }

    private static int apart(int a, int b) {
        return Math.max(Math.abs(a % SIDE - b % SIDE), Math.abs(a / SIDE - b / SIDE));
    }

    /** The tokens of the tape one by one, and the first fault found in them. */
    private static final class Tokens {
        private static final int BAD = 0;
        private static final int END = 1;
        private static final int WORD = 2;
        private static final int NUMBER = 3;
        private static final int SIGN = 4;
        private static final int LONGEST_WORD = 8;
        private static final int LONGEST_NUMBER = 4;
        private static final String SIGNS = ";()<>=+-*/";

        private final int[] text;
        private int length;
        private int at;
        private int kind;
        private int start;
        private int value;
        private int takenAt;
        private int fault;
        private int faultPlace;

        private Tokens(int[] text) {
            this.text = text;
        }

        private void open(int bytes) {
            length = Math.min(bytes, text.length);
            at = 0;
            fault = 0;
            faultPlace = NONE;
            start = 0;
            pass();
        }

        /** Takes the token ahead; the next one is ahead then. */
        private void pass() {
            takenAt = start;
            while (at < length && (text[at] == ' ' || text[at] == '\n')) {
                at++;
            }
            start = at;
            value = NONE;
            int letters = runOf('a', 'z');
            int digits = runOf('0', '9');
            if (at >= length) {
                kind = END;
            } else if (letters > 0) {
                at += letters;
                kind = letters > LONGEST_WORD ? BAD : WORD;
                value = knownWord();
            } else if (digits > 0) {
                at += digits;
                kind = digits > LONGEST_NUMBER || runOf('a', 'z') > 0 ? BAD : NUMBER;
                value = kind == NUMBER ? numberRead() : NONE;
            } else {
                value = text[at];
                kind = SIGNS.indexOf((char) value) >= 0 ? SIGN : BAD;
                at++;
            }
        }

        /** How many signs from the first to the last one stand next to each other here. */
        private int runOf(char first, char last) {
            int behind = at;
            while (behind < length && text[behind] >= first && text[behind] <= last) {
                behind++;
            }
            return behind - at;
        }

        private int numberRead() {
            int number = 0;
            for (int i = start; i < at; i++) {
                number = 10 * number + text[i] - '0';
            }
            return number;
        }

        /** The number of the word read among WORDS, or NONE if it may be a name. */
        private int knownWord() {
            int number = 0;
            int matched = 0;
            boolean same = true;
            for (int i = 0; i < WORDS.length(); i++) {
                char sign = WORDS.charAt(i);
                if (sign != ' ') {
                    same = same && matched < at - start && text[start + matched] == sign;
                    matched++;
                } else if (same && matched == at - start) {
                    return number;
                } else {
                    number++;
                    matched = 0;
                    same = true;
                }
            }
            return NONE;
        }

        /** Letters as digits of base 32, so that no two words are alike. */
        private long packedWord() {
            long packed = 0;
            for (int i = start; i < at; i++) {
                packed = 32 * packed + (text[i] - 'a' + 1);
            }
            return packed;
        }

        private int wordLength() {
            return kind == WORD ? at - start : 0;
        }

        /** The letter of the word read, from 0 for a. */
        private int letterOfWord(int i) {
            return i >= 0 && i < wordLength() ? text[start + i] - 'a' : NONE;
        }

        private boolean isSign(char sign) {
            return kind == SIGN && value == sign;
        }

        private boolean isWord(int number) {
            return kind == WORD && value == number;
        }

        private boolean takeSign(char sign) {
            if (!isSign(sign)) {
                return refuse(FAULT_PLACE);
            }
            pass();
            return true;
        }

        private boolean takeWord(int number) {
            if (!isWord(number)) {
                return refuse(FAULT_PLACE);
            }
            pass();
            return true;
        }

        /** A number from least to most, or NONE and a fault. */
        private int takeNumber(int least, int most) {
            if (kind != NUMBER) {
                refuse(FAULT_PLACE);
                return NONE;
            }
            if (value < least || value > most) {
                refuse(FAULT_VALUE);
                return NONE;
            }
            int number = value;
            pass();
            return number;
        }

        /** A fault at the token ahead; what is no token at all is the lesser fault there. */
        private boolean refuse(int number) {
            fault = kind == BAD ? FAULT_NO_TOKEN : number;
            faultPlace = start;
            return false;
        }

        /** A fault at the token taken last. */
        private boolean refuseTaken(int number) {
            fault = number;
            faultPlace = takenAt;
            return false;
        }
    }

    /** What a map tells, and what follows from it for a single move. */
    private static final class Plan {
        private static final int GROUNDS = 8;
        private static final int WALL_CELL = 0;
        private static final int WALL_ABOVE = 1;
        private static final int WALL_FROM = 2;
        private static final int WALL_TO = 3;
        private static final int WALL_ROW = 4;
        private static final int ROAD_ROW = 3;
        private static final int GLIDER_ROW = 5;
        private static final int GLIDER_HANDICAP = 4;

        private final int[] grounds = new int[CELLS];
        private int rowsTold;
        private final int[] lifts = new int[GROUNDS * HOURS];
        private int liftsTold;
        private final int[] winds = new int[HOURS];
        private final int[] tops = new int[HOURS];
        private final int[] wallRows = new int[MOST_WALLS * WALL_ROW];
        private int walls;
        private long fields;
        private final int[] roadRows = new int[MOST_ROADS * ROAD_ROW];
        private int roads;
        private final long[] names = new long[MOST_GLIDERS];
        private final int[] gliderRows = new int[MOST_GLIDERS * GLIDER_ROW];
        private int gliders;
        private int lines;

        private Plan() {
            Arrays.fill(winds, NONE);
            Arrays.fill(tops, NONE);
        }

        private void clear() {
            Arrays.fill(grounds, 0);
            rowsTold = 0;
            Arrays.fill(lifts, 0);
            liftsTold = 0;
            Arrays.fill(winds, NONE);
            Arrays.fill(tops, NONE);
            walls = 0;
            fields = 0;
            roads = 0;
            gliders = 0;
            lines = 0;
        }

        private boolean hasGlider(int glider) {
            return glider >= 0 && glider < gliders;
        }

        private boolean hasName(long name) {
            for (int i = 0; i < gliders; i++) {
                if (names[i] == name) {
                    return true;
                }
            }
            return false;
        }

        private int handicapOf(int glider) {
            return hasGlider(glider) ? gliderRows[glider * GLIDER_ROW + GLIDER_HANDICAP] : 0;
        }

        private int liftOf(int cell, int hour) {
            return lifts[grounds[cell] * HOURS + hour];
        }

        private int windIn(int hour) {
            for (int i = hour; i >= 0; i--) {
                if (winds[i] != NONE) {
                    return winds[i];
                }
            }
            return 0;
        }

        private int topIn(int hour) {
            for (int i = hour; i >= 0; i--) {
                if (tops[i] != NONE) {
                    return tops[i];
                }
            }
            return MOST_HEIGHT;
        }

        private boolean wallHas(int wall, int moment) {
            int row = wall * WALL_ROW;
            return moment >= wallRows[row + WALL_FROM] && moment < wallRows[row + WALL_TO];
        }

        private int wallCell(int wall) {
            return wallRows[wall * WALL_ROW + WALL_CELL];
        }

        private int wallAbove(int wall) {
            return wallRows[wall * WALL_ROW + WALL_ABOVE];
        }

        /** The greatest height for which a cell is not shut. */
        private int ceilingOf(int cell, int moment) {
            int ceiling = MOST_HEIGHT;
            for (int row = 0; row < walls * WALL_ROW; row += WALL_ROW) {
                boolean has = moment >= wallRows[row + WALL_FROM] && moment < wallRows[row + WALL_TO];
                if (has && wallRows[row + WALL_CELL] == cell) {
                    ceiling = Math.min(ceiling, wallRows[row + WALL_ABOVE]);
                }
            }
            return ceiling;
        }

        /** What circling wins, before the top is looked at; it may be below 0. */
        private int gainOf(int glider, int cell, int hour) {
            return liftOf(cell, hour) - gliderRows[glider * GLIDER_ROW];
        }

        private int lossOf(int glider, int hour, int direction, int speed) {
            int loss = gliderRows[glider * GLIDER_ROW + 1 + speed];
            if (direction % 2 == 1) {
                loss += loss / 2;
            }
            int blowing = windIn(hour);
            int towards = blowing % 4 * 2;
            int along = DX[direction] * DX[towards] + DY[direction] * DY[towards];
            return Math.max(0, loss - blowing / 4 * along);
        }

        /** Where a move leads as 6400 * height + 100 * moment + cell, or NONE. */
        private int moved(int glider, int cell, int moment, int height, int move) {
            if (moment >= STEPS) {
                return NONE;
            }
            int hour = moment / STEPS_PER_HOUR;
            int toCell = cell;
            int toMoment = moment + 1;
            int toHeight = height;
            if (move == 0) {
                toHeight = circled(height, gainOf(glider, cell, hour), topIn(hour));
            } else {
                int direction = (move - 1) / SPEEDS;
                int speed = (move - 1) % SPEEDS;
                toCell = neighbour(cell, direction);
                toMoment = moment + SPEEDS - speed;
                toHeight = height - lossOf(glider, hour, direction, speed);
            }
            if (toCell == NONE || toMoment > STEPS || toHeight < 0 || toHeight > ceilingOf(toCell, toMoment)) {
                return NONE;
            }
            return 6400 * toHeight + 100 * toMoment + toCell;
        }

        private static int circled(int height, int gain, int top) {
            int higher = height + gain;
            return higher > top && higher > height ? Math.max(top, height) : higher;
        }
    }

    /** Reads a map's lines into a plan up to the first fault. */
    private static final class PlanReader {
        private static final int MOST_LINES = 1900;

        private final Tokens tokens;
        private Plan plan;

        private PlanReader(Tokens tokens, Plan plan) {
            this.tokens = tokens;
            this.plan = plan;
        }

        private boolean read(Plan into, int bytes) {
            plan = into;
            plan.clear();
            tokens.open(bytes);
            for (int i = 0; i < MOST_LINES && tokens.kind != Tokens.END; i++) {
                int word = tokens.kind == Tokens.WORD ? tokens.value : NONE;
                boolean told;
                switch (word) {
                    case WORD_ROW: told = readRow(); break;
                    case WORD_LIFT: told = readLift(); break;
                    case WORD_WIND: told = readWind(); break;
                    case WORD_TOP: told = readTop(); break;
                    case WORD_WALL: told = readWall(); break;
                    case WORD_FIELD: told = readField(); break;
                    case WORD_ROAD: told = readRoad(); break;
                    case WORD_GLIDER: told = readGlider(); break;
                    default: told = tokens.refuse(FAULT_PLACE); break;
                }
                if (!told || !tokens.takeSign(';')) {
                    return false;
                }
                plan.lines++;
            }
            return true;
        }

        private boolean readRow() {
            tokens.pass();
            int y = tokens.takeNumber(0, SIDE - 1);
            if (y == NONE) {
                return false;
            }
            if ((plan.rowsTold >> y & 1) == 1) {
                return tokens.refuseTaken(FAULT_TOLD);
            }
            if (tokens.kind != Tokens.WORD) {
                return tokens.refuse(FAULT_PLACE);
            }
            if (tokens.wordLength() != SIDE) {
                return tokens.refuse(FAULT_VALUE);
            }
            for (int x = 0; x < SIDE; x++) {
                int ground = tokens.letterOfWord(x);
                if (ground < 0 || ground >= Plan.GROUNDS) {
                    return tokens.refuse(FAULT_VALUE);
                }
                plan.grounds[SIDE * y + x] = ground;
            }
            plan.rowsTold |= 1 << y;
            tokens.pass();
            return true;
        }

        private boolean readLift() {
            tokens.pass();
            if (tokens.kind != Tokens.WORD) {
                return tokens.refuse(FAULT_PLACE);
            }
            int ground = tokens.letterOfWord(0);
            if (tokens.wordLength() != 1 || ground < 0 || ground >= Plan.GROUNDS) {
                return tokens.refuse(FAULT_VALUE);
            }
            if ((plan.liftsTold >> ground & 1) == 1) {
                return tokens.refuse(FAULT_TOLD);
            }
            tokens.pass();
            for (int hour = 0; hour < HOURS; hour++) {
                int lift = tokens.takeNumber(0, 20);
                if (lift == NONE) {
                    return false;
                }
                plan.lifts[ground * HOURS + hour] = lift;
            }
            plan.liftsTold |= 1 << ground;
            return true;
        }

        /** An hour that the given row does not have yet, or NONE and a fault. */
        private int takeHour(int[] told) {
            tokens.pass();
            int hour = tokens.takeNumber(0, HOURS - 1);
            if (hour != NONE && told[hour] != NONE) {
                tokens.refuseTaken(FAULT_TOLD);
                return NONE;
            }
            return hour;
        }

        private boolean readWind() {
            int hour = takeHour(plan.winds);
            if (hour == NONE) {
                return false;
            }
            int towards = windLetter();
            if (towards == NONE) {
                return tokens.refuse(FAULT_PLACE);
            }
            tokens.pass();
            int strength = tokens.takeNumber(0, 3);
            if (strength == NONE) {
                return false;
            }
            plan.winds[hour] = 4 * strength + towards;
            return true;
        }

        private int windLetter() {
            if (tokens.wordLength() != 1) {
                return NONE;
            }
            switch (tokens.letterOfWord(0)) {
                case 'n' - 'a': return 0;
                case 'e' - 'a': return 1;
                case 's' - 'a': return 2;
                case 'w' - 'a': return 3;
                default: return NONE;
            }
        }

        private boolean readTop() {
            int hour = takeHour(plan.tops);
            if (hour == NONE) {
                return false;
            }
            int top = tokens.takeNumber(1, MOST_HEIGHT);
            if (top == NONE) {
                return false;
            }
            plan.tops[hour] = top;
            return true;
        }

        /** A cell told by x and y, or NONE and a fault. */
        private int takeCell() {
            int x = tokens.takeNumber(0, SIDE - 1);
            if (x == NONE) {
                return NONE;
            }
            int y = tokens.takeNumber(0, SIDE - 1);
            return y == NONE ? NONE : SIDE * y + x;
        }

        /** A number behind a word of its own, or NONE and a fault. */
        private int takeBehind(int word, int least, int most) {
            return tokens.takeWord(word) ? tokens.takeNumber(least, most) : NONE;
        }

        private boolean readWall() {
            if (plan.walls >= MOST_WALLS) {
                return tokens.refuse(FAULT_PLACE);
            }
            tokens.pass();
            int cell = takeCell();
            if (cell == NONE) {
                return false;
            }
            int above = takeBehind(WORD_ABOVE, 0, MOST_HEIGHT);
            if (above == NONE) {
                return false;
            }
            int from = takeBehind(WORD_FROM, 0, STEPS);
            if (from == NONE) {
                return false;
            }
            int to = takeBehind(WORD_TO, from + 1, STEPS);
            if (to == NONE) {
                return false;
            }
            int row = plan.walls * Plan.WALL_ROW;
            plan.wallRows[row + Plan.WALL_CELL] = cell;
            plan.wallRows[row + Plan.WALL_ABOVE] = above;
            plan.wallRows[row + Plan.WALL_FROM] = from;
            plan.wallRows[row + Plan.WALL_TO] = to;
            plan.walls++;
            return true;
        }

        private boolean readField() {
            tokens.pass();
            int cell = takeCell();
            if (cell == NONE) {
                return false;
            }
            if ((plan.fields >> cell & 1) == 1) {
                return tokens.refuseTaken(FAULT_TOLD);
            }
            plan.fields |= 1L << cell;
            return true;
        }

        private boolean readRoad() {
            if (plan.roads >= MOST_ROADS) {
                return tokens.refuse(FAULT_PLACE);
            }
            tokens.pass();
            int a = takeCell();
            if (a == NONE) {
                return false;
            }
            int b = takeCell();
            if (b == NONE) {
                return false;
            }
            if (a == b) {
                return tokens.refuseTaken(FAULT_SAME);
            }
            int minutes = tokens.takeNumber(1, 99);
            if (minutes == NONE) {
                return false;
            }
            int row = plan.roads * Plan.ROAD_ROW;
            plan.roadRows[row] = a;
            plan.roadRows[row + 1] = b;
            plan.roadRows[row + 2] = minutes;
            plan.roads++;
            return true;
        }

        private boolean readGlider() {
            if (plan.gliders >= MOST_GLIDERS) {
                return tokens.refuse(FAULT_PLACE);
            }
            tokens.pass();
            if (tokens.kind != Tokens.WORD || tokens.value != NONE) {
                return tokens.refuse(FAULT_PLACE);
            }
            long name = tokens.packedWord();
            if (plan.hasName(name)) {
                return tokens.refuse(FAULT_TOLD);
            }
            tokens.pass();
            int row = plan.gliders * Plan.GLIDER_ROW;
            if (!readSinks(row)) {
                return false;
            }
            int handicap = takeBehind(WORD_HANDICAP, 50, 200);
            if (handicap == NONE) {
                return false;
            }
            plan.gliderRows[row + Plan.GLIDER_HANDICAP] = handicap;
            plan.names[plan.gliders] = name;
            plan.gliders++;
            return true;
        }

        private boolean readSinks(int row) {
            if (!tokens.takeWord(WORD_SINK)) {
                return false;
            }
            for (int i = 0; i < Plan.GLIDER_HANDICAP; i++) {
                int sink = tokens.takeNumber(0, 30);
                if (sink == NONE) {
                    return false;
                }
                plan.gliderRows[row + i] = sink;
            }
            return true;
        }
    }

    /** The law: read into a row of signs that stand behind what they work on, and worked out. */
    private static final class Law {
        private static final int MOST_UNITS = 60;
        private static final int MOST_OTHERS = 6;
        private static final int MOST_CODE = 512;
        private static final int FIRST_ASKED = -1;
        private static final int LAST_ASKED = -OF_COUNT;
        private static final int DO_AND = -100;
        private static final int DO_OR = -101;
        private static final int DO_NOT = -102;

        private final Tokens tokens;
        // Of a code at least 0 is a number itself, FIRST_ASKED .. LAST_ASKED ask; others are signs, negated.
        private int[] code = new int[MOST_CODE];
        private int length;
        private int[] draft = new int[MOST_CODE];
        private int drafted;
        private int units;
        private final int[] stack = new int[MOST_UNITS + 1];

        private Law(Tokens tokens) {
            this.tokens = tokens;
        }

        private boolean read(int bytes) {
            tokens.open(bytes);
            drafted = 0;
            units = 0;
            if (!tokens.takeWord(WORD_SCORE) || !readEither(0) || !tokens.takeSign(';')) {
                return false;
            }
            if (tokens.kind != Tokens.END) {
                return tokens.refuse(FAULT_PLACE);
            }
            int[] old = code;
            code = draft;
            draft = old;
            length = drafted;
            return true;
        }

        private void put(int sign) {
            if (drafted < draft.length) {
                draft[drafted] = sign;
                drafted++;
            }
        }

        private boolean readEither(int within) {
            if (!readBoth(within)) {
                return false;
            }
            for (int i = 0; i < MOST_UNITS && tokens.isWord(WORD_OR); i++) {
                tokens.pass();
                if (!readBoth(within)) {
                    return false;
                }
                put(DO_OR);
            }
            return true;
        }

        private boolean readBoth(int within) {
            if (!readOne(within)) {
                return false;
            }
            for (int i = 0; i < MOST_UNITS && tokens.isWord(WORD_AND); i++) {
                tokens.pass();
                if (!readOne(within)) {
                    return false;
                }
                put(DO_AND);
            }
            return true;
        }

        private boolean readOne(int within) {
            if (tokens.isWord(WORD_NOT)) {
                if (within > MOST_OTHERS) {
                    return tokens.refuse(FAULT_PLACE);
                }
                tokens.pass();
                if (!readOne(within + 1)) {
                    return false;
                }
                put(DO_NOT);
                return true;
            }
            if (!readSum(within)) {
                return false;
            }
            if (tokens.isSign('<') || tokens.isSign('>') || tokens.isSign('=')) {
                int sign = tokens.value;
                tokens.pass();
                if (!readSum(within)) {
                    return false;
                }
                put(-sign);
            }
            return true;
        }

        private boolean readSum(int within) {
            if (!readTerm(within)) {
                return false;
            }
            for (int i = 0; i < MOST_UNITS && (tokens.isSign('+') || tokens.isSign('-')); i++) {
                int sign = tokens.value;
                tokens.pass();
                if (!readTerm(within)) {
                    return false;
                }
                put(-sign);
            }
            return true;
        }

        private boolean readTerm(int within) {
            if (!readUnit(within)) {
                return false;
            }
            for (int i = 0; i < MOST_UNITS && (tokens.isSign('*') || tokens.isSign('/')); i++) {
                int sign = tokens.value;
                tokens.pass();
                if (!readUnit(within)) {
                    return false;
                }
                put(-sign);
            }
            return true;
        }

        private boolean readUnit(int within) {
            if (units >= MOST_UNITS) {
                return tokens.refuse(FAULT_PLACE);
            }
            units++;
            if (tokens.isSign('(')) {
                if (within > MOST_OTHERS) {
                    return tokens.refuse(FAULT_PLACE);
                }
                tokens.pass();
                return readEither(within + 1) && tokens.takeSign(')');
            }
            if (tokens.kind == Tokens.NUMBER) {
                put(tokens.value);
            } else if (asked() != NONE) {
                put(FIRST_ASKED - asked());
            } else {
                return tokens.refuse(FAULT_PLACE);
            }
            tokens.pass();
            return true;
        }

        /** What the word ahead asks of a pilot, or NONE. */
        private int asked() {
            if (tokens.isWord(WORD_HANDICAP)) {
                return OF_HANDICAP;
            }
            boolean asks = tokens.kind == Tokens.WORD && tokens.value >= WORD_DONE && tokens.value <= WORD_ROUNDED;
            return asks ? tokens.value - WORD_DONE : NONE;
        }

        /** The law's value; what it asks stands in the table from a row's begin on. */
        private int valueOf(int[] table, int row) {
            int held = 0;
            for (int i = 0; i < length; i++) {
                int sign = code[i];
                if (sign >= LAST_ASKED) {
                    if (held >= stack.length) {
                        return 0;
                    }
                    stack[held] = sign >= 0 ? sign : table[row + FIRST_ASKED - sign];
                    held++;
                } else if (sign == DO_NOT && held >= 1) {
                    stack[held - 1] = stack[held - 1] == 0 ? 1 : 0;
                } else if (held >= 2) {
                    held--;
                    stack[held - 1] = worked(sign, stack[held - 1], stack[held]);
                }
            }
            return held > 0 ? stack[0] : 0;
        }

        private static int worked(int sign, int a, int b) {
            switch (sign) {
                case -'+': return a + b;
                case -'-': return a - b;
                case -'*': return a * b;
                case -'/': return b == 0 ? 0 : a / b;
                case -'<': return a < b ? 1 : 0;
                case -'>': return a > b ? 1 : 0;
                case -'=': return a == b ? 1 : 0;
                case DO_AND: return a != 0 && b != 0 ? 1 : 0;
                case DO_OR: return a != 0 || b != 0 ? 1 : 0;
                default: return 0;
            }
        }
    }

    /** The task: its turning points, the finish behind them, and how near is near enough. */
    private static final class Course {
        private final int[] points = new int[MOST_TURNS + 1];
        // Turning points and the finish; 0 without a task.
        private int count;
        private int zone;

        private boolean take(int a, int b, int c, int finish) {
            if (!isCell(finish) || !canTurn(a, b) || !canTurn(b, c) || !canTurn(c, NONE)) {
                return false;
            }
            count = 0;
            addPoint(a);
            addPoint(b);
            addPoint(c);
            addPoint(finish);
            return true;
        }

        /** Whether a can be a turning point, or none with none behind it. */
        private static boolean canTurn(int a, int behind) {
            return isCell(a) || a == NONE && behind == NONE;
        }

        private void addPoint(int cell) {
            if (cell != NONE && count < points.length) {
                points[count] = cell;
                count++;
            }
        }

        private int turns() {
            return Math.max(0, count - 1);
        }

        private int finish() {
            return points[turns()];
        }

        /** How many turning points are rounded in a cell, if so many were ahead of it. */
        private int roundedIn(int cell, int before) {
            int rounded = before;
            while (rounded < count - 1 && points[rounded] == cell) {
                rounded++;
            }
            return rounded;
        }
    }

    /**
     * Searches moment by moment. For each moment, number of rounded turning points and cell the grid
     * has the heights that can be there as bits of one long, so that a move of all is one shift.
     */
    private static final class Flight {
        private static final int STAGES = MOST_TURNS + 1;
        private static final int A_STEP = STAGES * CELLS;

        private final long[] grid = new long[(STEPS + 1) * A_STEP];
        private final int[] neighbours = new int[CELLS * DIRECTIONS];
        private final int[] losses = new int[DIRECTIONS * SPEEDS];
        private final int[] moves = new int[STEPS];
        private final Course noCourse = new Course();
        private int moveCount;
        private int flown;
        private Plan plan;
        private Course course;
        private int top;
        private int hour;
        // The latest question, so that the moves of one way are searched once.
        private boolean known;
        private int glider;
        private int cell;
        private int moment;
        private int height;
        private int finishHeight;

        private Flight(Plan plan, Course course) {
            this.plan = plan;
            this.course = course;
            for (int i = 0; i < neighbours.length; i++) {
                neighbours[i] = neighbour(i / DIRECTIONS, i % DIRECTIONS);
            }
        }

        private void forget() {
            known = false;
        }

        /** Whether this question was answered last; else it is the next one to search. */
        private boolean knows(int glider, int cell, int moment, int height, int finishHeight) {
            if (known && this.glider == glider && this.cell == cell && this.moment == moment
                && this.height == height && this.finishHeight == finishHeight) {
                return true;
            }
            ask(glider, cell, moment, height, finishHeight);
            return false;
        }

        private void ask(int glider, int cell, int moment, int height, int finishHeight) {
            this.glider = glider;
            this.cell = cell;
            this.moment = moment;
            this.height = height;
            this.finishHeight = finishHeight;
            known = false;
        }

        private void search(Plan plan, Course course) {
            begin(plan, course);
            flown = NONE;
            moveCount = 0;
            known = true;
            for (int t = moment; t <= STEPS && flown == NONE; t++) {
                spreadAll(t, true);
                if (isFlown(t)) {
                    flown = t;
                }
            }
            if (flown != NONE) {
                keepWhatLeadsThere();
            }
        }

        /** How many fields can be come to by gliding alone. */
        private int fieldsInReach(Plan plan, int glider, int cell, int moment, int height) {
            ask(glider, cell, moment, height, 0);
            begin(plan, noCourse);
            long reached = 0;
            for (int t = moment; t <= STEPS; t++) {
                spreadAll(t, false);
                reached |= cellsReached(t);
            }
            return Long.bitCount(reached & plan.fields);
        }

        private void begin(Plan plan, Course course) {
            this.plan = plan;
            this.course = course;
            Arrays.fill(grid, 0);
            grid[index(moment, course.roundedIn(cell, 0), cell)] = 1L << height;
        }

        private static int index(int t, int stage, int cell) {
            return t * A_STEP + stage * CELLS + cell;
        }

        private static long heightsUpTo(int height) {
            return height < 0 ? 0 : (2L << height) - 1;
        }

        private long cellsReached(int t) {
            long cells = 0;
            for (int i = 0; i < CELLS; i++) {
                if (grid[index(t, 0, i)] != 0) {
                    cells |= 1L << i;
                }
            }
            return cells;
        }

        private long finishing(int t) {
            return grid[index(t, course.turns(), course.finish())] & ~heightsUpTo(finishHeight - 1);
        }

        private boolean isFlown(int t) {
            return finishing(t) != 0;
        }

        private void readHour(int t) {
            hour = Math.min(t / STEPS_PER_HOUR, HOURS - 1);
            top = plan.topIn(hour);
            for (int i = 0; i < losses.length; i++) {
                losses[i] = plan.lossOf(glider, hour, i / SPEEDS, i % SPEEDS);
            }
        }

        /** Takes what is shut from a moment's heights, and moves the rest on. */
        private void spreadAll(int t, boolean circling) {
            readHour(t);
            for (int stage = 0; stage <= course.turns(); stage++) {
                for (int i = 0; i < CELLS; i++) {
                    int here = index(t, stage, i);
                    if (grid[here] != 0) {
                        grid[here] &= heightsUpTo(plan.ceilingOf(i, t));
                        spread(t, stage, i, circling);
                    }
                }
            }
        }

        private void spread(int t, int stage, int from, boolean circling) {
            long heights = grid[index(t, stage, from)];
            if (heights == 0 || t >= STEPS) {
                return;
            }
            if (circling) {
                grid[index(t + 1, stage, from)] |= circled(heights, plan.gainOf(glider, from, hour));
            }
            int slowest = Math.max(0, t + 3 - STEPS);
            for (int direction = 0; direction < DIRECTIONS; direction++) {
                int next = neighbours[from * DIRECTIONS + direction];
                if (next != NONE) {
                    int there = index(t + 3, course.roundedIn(next, stage), next);
                    for (int speed = slowest; speed < SPEEDS; speed++) {
                        grid[there - speed * A_STEP] |= heights >>> losses[direction * SPEEDS + speed];
                    }
                }
            }
        }

        /** The heights that come of heights by circling. */
        private long circled(long heights, int gain) {
            if (gain <= 0) {
                return heights >>> -gain;
            }
            long upToTop = heightsUpTo(top);
            long lifted = (heights & upToTop) << gain;
            long stopped = (lifted & ~upToTop) != 0 ? 1L << top : 0;
            return lifted & upToTop | stopped | heights & ~upToTop;
        }

        /** The heights that come to be among the given ones by circling. */
        private long uncircled(long heights, int gain) {
            if (gain <= 0) {
                return heights << -gain;
            }
            long upToTop = heightsUpTo(top);
            long stopped = (heights >>> top & 1) == 1 ? upToTop & ~heightsUpTo(top - gain - 1) : 0;
            return (heights & upToTop) >>> gain | stopped | heights & ~upToTop;
        }

        /** Leaves in the grid only what can still be flown at the soonest moment. */
        private void keepWhatLeadsThere() {
            long finishing = finishing(flown);
            for (int i = index(flown, 0, 0); i < index(flown, STAGES, 0); i++) {
                grid[i] = 0;
            }
            grid[index(flown, course.turns(), course.finish())] = finishing;
            for (int t = flown - 1; t >= moment; t--) {
                readHour(t);
                for (int stage = 0; stage <= course.turns(); stage++) {
                    for (int i = 0; i < CELLS; i++) {
                        int here = index(t, stage, i);
                        if (grid[here] != 0) {
                            grid[here] &= leading(t, stage, i);
                        }
                    }
                }
            }
        }

        private long leading(int t, int stage, int from) {
            long heights = uncircled(grid[index(t + 1, stage, from)], plan.gainOf(glider, from, hour));
            int slowest = Math.max(0, t + 3 - flown);
            for (int direction = 0; direction < DIRECTIONS; direction++) {
                int next = neighbours[from * DIRECTIONS + direction];
                if (next != NONE) {
                    int there = index(t + 3, course.roundedIn(next, stage), next);
                    for (int speed = slowest; speed < SPEEDS; speed++) {
                        heights |= grid[there - speed * A_STEP] << losses[direction * SPEEDS + speed];
                    }
                }
            }
            return heights;
        }

        /** Writes down the way, if there is one, at each moment by the first move that still leads there. */
        private void walk() {
            int t = moment;
            int at = cell;
            int high = height;
            int stage = course.roundedIn(cell, 0);
            for (int i = 0; i < STEPS && t < flown; i++) {
                int move = firstLeading(t, stage, at, high);
                if (move == NONE) {
                    return;
                }
                int reached = plan.moved(glider, at, t, high, move);
                moves[moveCount] = move;
                moveCount++;
                high = reached / 6400;
                t = reached % 6400 / 100;
                at = reached % 100;
                stage = course.roundedIn(at, stage);
            }
        }

        private int firstLeading(int t, int stage, int at, int high) {
            for (int move = 0; move < MOVES; move++) {
                int reached = plan.moved(glider, at, t, high, move);
                if (reached != NONE && leads(stage, reached)) {
                    return move;
                }
            }
            return NONE;
        }

        private boolean leads(int stage, int reached) {
            int t = reached % 6400 / 100;
            int at = reached % 100;
            return t <= flown && (grid[index(t, course.roundedIn(at, stage), at)] >>> reached / 6400 & 1) == 1;
        }
    }

    /** The winch and the tow planes, and who was launched by them. */
    private static final class Launches {
        private int winchSteps = 1;
        private int planes = 1;
        private int towSteps = 2;
        private int winchFree;
        private final int[] planeFree = new int[MOST_PLANES];
        private final int[] begins = new int[MOST_LAUNCHES];
        private final int[] frees = new int[MOST_LAUNCHES];
        private final int[] by = new int[MOST_LAUNCHES];
        private int count;

        private boolean equip(int winch, int planes, int tow) {
            if (!isTaken(winch) || !isTaken(tow) || planes < 1 || planes > MOST_PLANES) {
                return false;
            }
            winchSteps = winch;
            this.planes = planes;
            towSteps = tow;
            winchFree = 0;
            Arrays.fill(planeFree, 0);
            count = 0;
            return true;
        }

        private static boolean isTaken(int steps) {
            return steps >= 1 && steps <= MOST_TAKEN;
        }

        private int ask(boolean tow, int step) {
            if (step < 0 || step >= STEPS || count >= MOST_LAUNCHES) {
                return NONE;
            }
            int plane = tow ? firstFree() : 0;
            int begin = Math.max(step, tow ? planeFree[plane] : winchFree);
            int free = begin + (tow ? towSteps : winchSteps);
            boolean never = begin >= STEPS;
            begins[count] = never ? NONE : begin;
            frees[count] = never ? NONE : free;
            by[count] = never ? NONE : plane;
            if (!never && tow) {
                planeFree[plane] = free;
            } else if (!never) {
                winchFree = free;
            }
            count++;
            return count - 1;
        }

        private int firstFree() {
            int first = 0;
            for (int i = 1; i < planes; i++) {
                if (planeFree[i] < planeFree[first]) {
                    first = i;
                }
            }
            return first;
        }

        private int tell(int launch, int what) {
            if (launch < 0 || launch >= count) {
                return NONE;
            }
            switch (what) {
                case 0: return begins[launch];
                case 1: return frees[launch];
                case 2: return by[launch];
                default: return NONE;
            }
        }
    }

    /** Pilots and all fixes ever told of them, with the times of telling and untelling. */
    private static final class Traces {
        private final int[] gliders = new int[MOST_PILOTS];
        private int pilots;
        private final int[] pilotOf = new int[MOST_FIXES];
        private final int[] steps = new int[MOST_FIXES];
        private final int[] cells = new int[MOST_FIXES];
        private final int[] heights = new int[MOST_FIXES];
        private final int[] told = new int[MOST_FIXES];
        private final int[] untold = new int[MOST_FIXES];
        private int fixes;
        private int time;

        private void clear() {
            pilots = 0;
            fixes = 0;
        }

        private boolean hasPilot(int pilot) {
            return pilot >= 0 && pilot < pilots;
        }

        private int addPilot(int glider) {
            if (pilots >= MOST_PILOTS) {
                return NONE;
            }
            gliders[pilots] = glider;
            pilots++;
            return pilots - 1;
        }

        private int addFix(int pilot, int step, int cell, int height) {
            if (fixes >= MOST_FIXES) {
                return NONE;
            }
            pilotOf[fixes] = pilot;
            steps[fixes] = step;
            cells[fixes] = cell;
            heights[fixes] = height;
            told[fixes] = time;
            untold[fixes] = NONE;
            fixes++;
            return fixes - 1;
        }

        private boolean takeBack(int fix) {
            if (fix < 0 || fix >= fixes || untold[fix] != NONE) {
                return false;
            }
            untold[fix] = time;
            return true;
        }

        private int goOn(int by) {
            if (by < 0 || by > MOST_LATER || time + by > LAST_TIME) {
                return NONE;
            }
            time += by;
            return time;
        }

        private boolean counts(int fix, int k) {
            return told[fix] <= k && (untold[fix] == NONE || untold[fix] > k);
        }
    }

    /** The fixes of one pilot as known at a time, one a step, and what they tell. */
    private static final class Trace {
        private final int[] lastOf = new int[STEPS];
        private final int[] steps = new int[STEPS];
        private final int[] cells = new int[STEPS];
        private final int[] heights = new int[STEPS];
        private int count;
        // How many points were rounded at least, and by which fix the last of them.
        private int rounded;
        private int roundedBy;

        private void gather(Traces all, int pilot, int k) {
            Arrays.fill(lastOf, NONE);
            for (int fix = 0; fix < all.fixes; fix++) {
                if (all.pilotOf[fix] == pilot && all.counts(fix, k)) {
                    lastOf[all.steps[fix]] = fix;
                }
            }
            count = 0;
            for (int step = 0; step < STEPS; step++) {
                int fix = lastOf[step];
                if (fix != NONE) {
                    steps[count] = step;
                    cells[count] = all.cells[fix];
                    heights[count] = all.heights[fix];
                    count++;
                }
            }
        }

        /** How many points stand rounded behind a fix, if so many were ahead of it. */
        private int roundedAt(Course course, int fix, int before) {
            int after = before;
            while (after < course.count && apart(cells[fix], course.points[after]) <= course.zone) {
                after++;
            }
            return after;
        }

        private void roundLeast(Course course) {
            rounded = 0;
            roundedBy = 0;
            for (int i = 0; i < count; i++) {
                int after = roundedAt(course, i, rounded);
                if (after > rounded) {
                    rounded = after;
                    roundedBy = i;
                }
            }
        }

        private int mostRounded(Course course) {
            int most = 0;
            for (int i = 0; i < count; i++) {
                most = roundedAt(course, i, most);
                if (i + 1 < count && most < course.count && canRoundBehind(course, i, most)) {
                    most++;
                }
            }
            return most;
        }

        /** Whether there is time for a point between a fix and the next one. */
        private boolean canRoundBehind(Course course, int fix, int point) {
            int to = Math.max(0, apart(cells[fix], course.points[point]) - course.zone);
            int on = Math.max(0, apart(cells[fix + 1], course.points[point]) - course.zone);
            return to + on <= steps[fix + 1] - steps[fix];
        }

        private int timeOn(Course course) {
            return hasAll(course) ? steps[roundedBy] - steps[0] : 0;
        }

        private boolean hasAll(Course course) {
            return count > 0 && rounded == course.count;
        }

        private int legOf(Course course, int leg) {
            return apart(leg == 0 ? cells[0] : course.points[leg - 1], course.points[leg]);
        }

        private int legsOf(Course course) {
            return count == 0 ? 0 : legsUpTo(course, course.count);
        }

        private int legsUpTo(Course course, int legs) {
            int sum = 0;
            for (int leg = 0; leg < legs; leg++) {
                sum += legOf(course, leg);
            }
            return sum;
        }

        private int doneOn(Course course) {
            if (count == 0) {
                return 0;
            }
            int done = legsUpTo(course, rounded);
            if (rounded < course.count) {
                int length = legOf(course, rounded);
                int left = length;
                for (int i = roundedBy; i < count; i++) {
                    left = Math.min(left, apart(cells[i], course.points[rounded]));
                }
                done += length - left;
            }
            return done;
        }

        private int wallsForSure(Plan plan) {
            int bits = 0;
            for (int wall = 0; wall < plan.walls; wall++) {
                for (int i = 0; i < count; i++) {
                    if (cells[i] == plan.wallCell(wall) && heights[i] > plan.wallAbove(wall)
                        && plan.wallHas(wall, steps[i])) {
                        bits |= 1 << wall;
                    }
                }
            }
            return bits;
        }

        private int wallsMaybe(Plan plan) {
            int bits = 0;
            for (int wall = 0; wall < plan.walls; wall++) {
                for (int i = 0; i + 1 < count; i++) {
                    if (canEnterBehind(plan, wall, i)) {
                        bits |= 1 << wall;
                    }
                }
            }
            return bits & ~wallsForSure(plan);
        }

        /** Whether there is time for a wall between a fix and the next one. */
        private boolean canEnterBehind(Plan plan, int wall, int fix) {
            int to = apart(cells[fix], plan.wallCell(wall));
            int on = apart(cells[fix + 1], plan.wallCell(wall));
            for (int t = steps[fix] + 1; t < steps[fix + 1]; t++) {
                if (plan.wallHas(wall, t) && to <= t - steps[fix] && on <= steps[fix + 1] - t) {
                    return true;
                }
            }
            return false;
        }
    }

    /** What a law may ask of each pilot as known at a time, and the scores of it. */
    private static final class Scores {
        private final int[] table = new int[MOST_PILOTS * OF_COUNT];

        private void weigh(Plan plan, Course course, Traces traces, Trace trace, int k) {
            int best = 0;
            int first = NONE;
            for (int pilot = 0; pilot < traces.pilots; pilot++) {
                trace.gather(traces, pilot, k);
                trace.roundLeast(course);
                int row = pilot * OF_COUNT;
                int time = trace.timeOn(course);
                int done = trace.doneOn(course);
                table[row + OF_DONE] = done;
                table[row + OF_LEGS] = trace.legsOf(course);
                table[row + OF_TIME] = time;
                table[row + OF_WALLS] = Integer.bitCount(trace.wallsForSure(plan));
                table[row + OF_ROUNDED] = trace.rounded;
                table[row + OF_HANDICAP] = plan.handicapOf(traces.gliders[pilot]);
                best = Math.max(best, done);
                if (trace.hasAll(course) && (first == NONE || time < first)) {
                    first = time;
                }
            }
            for (int pilot = 0; pilot < traces.pilots; pilot++) {
                table[pilot * OF_COUNT + OF_BEST] = best;
                table[pilot * OF_COUNT + OF_FIRST] = Math.max(0, first);
            }
        }

        private int scoreOf(Law law, int pilot) {
            return Math.max(0, law.valueOf(table, pilot * OF_COUNT));
        }

        private int rankOf(Law law, int pilot, int pilots) {
            int own = scoreOf(law, pilot);
            int rank = 1;
            for (int other = 0; other < pilots; other++) {
                if (scoreOf(law, other) > own) {
                    rank++;
                }
            }
            return rank;
        }
    }

    /** Gliders that lie out, and how trailers share them. */
    private static final class Trailers {
        private static final int FAR = 1000000;

        private final int[] cells = new int[MOST_OUT];
        private int count;
        private final int[] distances = new int[CELLS];
        private final int[] loads = new int[MOST_TRAILERS];
        private final int[] tried = new int[MOST_OUT];
        private final int[] chosen = new int[MOST_OUT];
        private int best;

        private int clear() {
            int were = count;
            count = 0;
            return were;
        }

        private int lay(int cell) {
            if (count >= MOST_OUT) {
                return NONE;
            }
            cells[count] = cell;
            count++;
            return count;
        }

        private int minutesBetween(Plan plan, int a, int b) {
            measure(plan, a);
            return distances[b] >= FAR ? NONE : distances[b];
        }

        /** The distances of all cells from one, by roads. */
        private void measure(Plan plan, int from) {
            Arrays.fill(distances, FAR);
            distances[from] = 0;
            boolean changed = true;
            for (int round = 0; round <= MOST_ROADS && changed; round++) {
                changed = false;
                for (int road = 0; road < plan.roads; road++) {
                    int row = road * Plan.ROAD_ROW;
                    int a = plan.roadRows[row];
                    int b = plan.roadRows[row + 1];
                    int minutes = plan.roadRows[row + 2];
                    if (distances[a] + minutes < distances[b]) {
                        distances[b] = distances[a] + minutes;
                        changed = true;
                    }
                    if (distances[b] + minutes < distances[a]) {
                        distances[a] = distances[b] + minutes;
                        changed = true;
                    }
                }
            }
        }

        /** Finds the best share for so many trailers; false if a glider can't be come to. */
        private boolean share(Plan plan, int home, int number) {
            measure(plan, home);
            for (int i = 0; i < count; i++) {
                if (distances[cells[i]] >= FAR) {
                    return false;
                }
            }
            Arrays.fill(loads, 0);
            best = FAR;
            give(0, number, 0);
            return true;
        }

        /**
         * Gives a glider and those behind it to trailers, in the order of their numbers, so that the first
         * share that is better than all others stays. Of trailers that have none yet the least will do.
         */
        private void give(int glider, int number, int longest) {
            if (longest >= best || glider > MOST_OUT) {
                return;
            }
            if (glider == count) {
                best = longest;
                System.arraycopy(tried, 0, chosen, 0, count);
                return;
            }
            int minutes = 2 * distances[cells[glider]];
            for (int trailer = 0; trailer < number; trailer++) {
                tried[glider] = trailer;
                loads[trailer] += minutes;
                give(glider + 1, number, Math.max(longest, loads[trailer]));
                loads[trailer] -= minutes;
                if (loads[trailer] == 0) {
                    return;
                }
            }
        }
    }
}
