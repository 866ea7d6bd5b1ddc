import java.util.Arrays;

/**
 * A mountain with lifts and runs, its weather as known at a time, its law, ways, skiers, crowds
 * and sweeps. The words in capitals in the comments are those of the document.
 */
public final class SkiMountain {
    public static final int NONE = -1;

    private static final int TAPE_LIMIT = 1400;
    private static final int LAW_LIMIT = 500;
    private static final int PLACES = 10;
    private static final int MAX_LIFTS = 6;
    private static final int MAX_RUNS = 7;
    private static final int FIRST_RUN = 10;
    private static final int WAYS = FIRST_RUN + MAX_RUNS;
    private static final int SKILLS = 4;
    private static final int HOURS = 8;
    private static final int HOUR_MINUTES = 60;
    private static final int DAY_MINUTES = 480;
    private static final int LATEST = 540;
    private static final int FAR = 1000000;
    private static final int MAX_WEATHER = 60;
    private static final int MAX_PASSES = 100;
    private static final int MAX_SKIERS = 8;
    private static final int MAX_TURNS = 6;
    private static final int MAX_ARRIVALS = 20;
    private static final int MAX_TIME = 100000;

    // The kinds of TOKENS: the words that stand for themselves by their order in WORDS, the others
    // behind them; a sign's kind is its byte, and all signs are above these.
    private static final String WORDS =
        "lift run home takes seats from to gate grade snow shut if or and not hour wind fresh ";
    private static final String SIGNS = ";()<>=+-";
    private static final int LIFT = 0;
    private static final int RUN = 1;
    private static final int HOME = 2;
    private static final int TAKES = 3;
    private static final int SEATS = 4;
    private static final int FROM = 5;
    private static final int TO = 6;
    private static final int GATE = 7;
    private static final int GRADE = 8;
    private static final int SNOW = 9;
    private static final int SHUT = 10;
    private static final int IF = 11;
    private static final int OR = 12;
    private static final int AND = 13;
    private static final int NOT = 14;
    private static final int HOUR = 15;
    private static final int WIND = 16;
    private static final int FRESH = 17;
    private static final int NAME = 18;
    private static final int NUMBER = 19;
    private static final int PLACE = 20;
    private static final int END = 21;
    private static final int BAD = 22;

    private static final int NO_TOKEN = 1;
    private static final int CANT_STAND = 2;
    private static final int NAME_TOLD = 3;
    private static final int CANT_BE = 4;
    private static final int SAME_PLACE = 5;
    private static final int NOT_OF_LIFTS = 6;

    private final byte[] tape = new byte[TAPE_LIMIT];
    private int taped;
    private final Tokens tokens = new Tokens();
    private int faultKind;
    private int faultPlace = NONE;
    private int time;
    // Goes on with each change of what is told, so that what was reckoned before is not used again.
    private int changes;
    private Slopes slopes = new Slopes();
    private Law rules = new Law(1);
    private final Tellings winds = new Tellings(MAX_WEATHER);
    private final Tellings passes = new Tellings(MAX_PASSES);
    private final Outlook outlook = new Outlook(slopes);
    private final Routes routes = new Routes(outlook);
    private final Skier[] skiers = new Skier[MAX_SKIERS];
    private int skierCount;
    private final Crowds crowds = new Crowds();
    private final Day lastDay = new Day(crowds, outlook);
    private final Sweeps sweeps = new Sweeps(slopes);

    public SkiMountain() {
    }

    public int feed(int a, int b, int c, int d, int e) {
        if (taped + 20 > TAPE_LIMIT) {
            return NONE;
        }
        putOnTape(a);
        putOnTape(b);
        putOnTape(c);
        putOnTape(d);
        putOnTape(e);
        return taped;
    }

    public int end(int n) {
        if (n < 0 || n > taped) {
            return NONE;
        }
        taped = n;
        return n;
    }

    public int mountain() {
        Slopes told = new Slopes();
        cutTape();
        boolean good = told.read(tokens);
        keepFault();
        if (!good) {
            return NONE;
        }
        slopes = told;
        changes++;
        passes.count = 0;
        crowds.forgetWays();
        lastDay.wasRun = false;
        sweeps.forget(slopes);
        return told.lines;
    }

    public int law() {
        if (taped > LAW_LIMIT) {
            return -2;
        }
        cutTape();
        Law told = new Law(tokens.count);
        boolean good = told.read(tokens);
        keepFault();
        if (!good) {
            return NONE;
        }
        rules = told;
        changes++;
        lastDay.wasRun = false;
        return told.lines;
    }

    public int fault(int what) {
        if (what == 0) {
            return faultKind;
        }
        return what == 1 ? faultPlace : NONE;
    }

    public int weather(int hour, int wind, int fresh) {
        if (!within(hour, HOURS) || !within(wind, 100) || !within(fresh, 41)) {
            return NONE;
        }
        changes++;
        return winds.tell(time, hour, wind, fresh);
    }

    public boolean untell(int telling) {
        changes++;
        return winds.takeBack(telling, time);
    }

    public int later(int by) {
        if (by < 0 || by > 1000 || time + by > MAX_TIME) {
            return NONE;
        }
        time += by;
        return time;
    }

    public int air(int hour, int what, int k) {
        if (!within(hour, HOURS) || !within(what, 2)) {
            return NONE;
        }
        look(k);
        return what == 0 ? outlook.wind[hour] : outlook.fresh[hour];
    }

    public int open(int way, int minute, int k) {
        if (!slopes.has(way) || !within(minute, DAY_MINUTES + 1)) {
            return NONE;
        }
        look(k);
        return outlook.isOpen(way, minute) ? 1 : 0;
    }

    public int soonest(int skill, int from, int minute, int to, int k) {
        if (!canAsk(skill, from, minute, to)) {
            return NONE;
        }
        look(k);
        return routes.firstMinuteAt(skill, from, minute, to);
    }

    public int way(int skill, int from, int minute, int to, int n, int k) {
        if (!canAsk(skill, from, minute, to) || n < 0) {
            return NONE;
        }
        look(k);
        return routes.wayOf(skill, from, minute, to, n);
    }

    public int last(int skill, int from, int k) {
        if (!within(skill, SKILLS) || !within(from, PLACES)) {
            return NONE;
        }
        look(k);
        return Math.min(routes.lastMinuteAt(skill, from, slopes.home), DAY_MINUTES);
    }

    public int skier(int skill) {
        if (!within(skill, SKILLS) || skierCount >= MAX_SKIERS) {
            return NONE;
        }
        skiers[skierCount] = new Skier(skill, slopes);
        skierCount++;
        return skierCount - 1;
    }

    public int pass(int skier, int lift, int minute) {
        if (!within(skier, skierCount) || !within(lift, slopes.lifts) || !within(minute, DAY_MINUTES)) {
            return NONE;
        }
        if (!slopes.gate[lift]) {
            return NONE;
        }
        changes++;
        return passes.tell(time, skier, lift, minute);
    }

    public boolean unpass(int pass) {
        changes++;
        return passes.takeBack(pass, time);
    }

    public int can(int skier, int p, int minute, int k) {
        Skier one = seen(skier, minute, k);
        if (one == null || !within(p, PLACES)) {
            return NONE;
        }
        return one.canStand(p, minute) ? 1 : 0;
    }

    public int canOn(int skier, int way, int minute, int k) {
        Skier one = seen(skier, minute, k);
        if (one == null || !slopes.has(way)) {
            return NONE;
        }
        return one.canRide(way, minute) ? 1 : 0;
    }

    public int places(int skier, int minute, int k) {
        Skier one = seen(skier, minute, k);
        if (one == null) {
            return NONE;
        }
        int many = 0;
        for (int p = 0; p < PLACES; p++) {
            many += one.canStand(p, minute) ? 1 : 0;
        }
        for (int way = 0; way < WAYS; way++) {
            many += slopes.has(way) && one.canRide(way, minute) ? 1 : 0;
        }
        return many;
    }

    public int meet(int a, int b, int p, int from, int k) {
        if (a == b || !within(p, PLACES)) {
            return NONE;
        }
        Skier one = seen(a, from, k);
        Skier other = seen(b, from, k);
        if (one == null || other == null) {
            return NONE;
        }
        for (int minute = from; minute <= LATEST; minute++) {
            if (one.canStand(p, minute) && other.canStand(p, minute)) {
                return minute;
            }
        }
        return NONE;
    }

    public int arrive(int minute, int many) {
        if (!within(minute, DAY_MINUTES) || many < 1 || many > 500) {
            return NONE;
        }
        return crowds.addArrivals(minute, many);
    }

    public int turn(int way) {
        return slopes.has(way) ? crowds.addTurn(slopes.starts[way], way) : NONE;
    }

    public boolean make(int run, int mm) {
        if (!within(run, slopes.runs) || !within(mm, 21)) {
            return false;
        }
        crowds.makers[run] = mm;
        return true;
    }

    public int day(int k) {
        look(k);
        lastDay.runThrough();
        return lastDay.standing(slopes.home);
    }

    public int wait(int p, int minute, int what) {
        if (!lastDay.wasRun || !within(p, PLACES) || !within(minute, DAY_MINUTES)) {
            return NONE;
        }
        if (!within(what, 2)) {
            return NONE;
        }
        int row = minute * PLACES + p;
        return what == 0 ? lastDay.undecidedThen[row] : lastDay.queuedThen[row];
    }

    public int snow(int run, int minute) {
        if (!lastDay.wasRun || !within(run, slopes.runs) || !within(minute, DAY_MINUTES)) {
            return NONE;
        }
        return lastDay.snowThen[minute * MAX_RUNS + run];
    }

    public int took(int way, int what) {
        if (!lastDay.wasRun || !slopes.has(way) || !within(what, 2)) {
            return NONE;
        }
        return what == 0 ? lastDay.taken[way] : lastDay.longest[way];
    }

    public int sweep(int p, int patrollers) {
        if (!within(p, PLACES) || patrollers < 1 || patrollers > 2) {
            return NONE;
        }
        return sweeps.least(p, patrollers);
    }

    public int about(int what) {
        switch (what) {
            case 0: return slopes.lifts;
            case 1: return slopes.runs;
            case 2: return slopes.lines;
            case 3: return winds.count;
            case 4: return skierCount;
            case 5: return passes.count;
            case 6: return crowds.arrivals;
            case 7: return time;
            case 8: return taped;
            case 9: return slopes.home;
            default: return NONE;
        }
    }

    private static boolean within(int n, int bound) {
        return n >= 0 && n < bound;
    }

    private static int hourOf(int minute) {
        return minute < DAY_MINUTES ? minute / HOUR_MINUTES : HOURS - 1;
    }

    private void putOnTape(int four) {
        for (int shift = 24; shift >= 0 && taped < tape.length; shift -= 8) {
            tape[taped] = (byte) (four >> shift);
            taped++;
        }
    }

    private void cutTape() {
        tokens.cut(tape, taped);
        taped = 0;
    }

    private void keepFault() {
        faultKind = tokens.fault;
        faultPlace = tokens.faultPlace;
    }

    private void look(int k) {
        if (outlook.changes != changes || outlook.known != k) {
            outlook.look(slopes, rules, winds, k);
            outlook.changes = changes;
        }
    }

    private boolean canAsk(int skill, int from, int minute, int to) {
        return within(skill, SKILLS) && within(from, PLACES) && within(to, PLACES)
            && within(minute, DAY_MINUTES + 1);
    }

    /** The SKIER with where he CAN be as known at k; null if there is no such SKIER or MINUTE. */
    private Skier seen(int skier, int minute, int k) {
        if (!within(skier, skierCount) || !within(minute, LATEST + 1)) {
            return null;
        }
        look(k);
        Skier one = skiers[skier];
        if (one == null) {
            return null;
        }
        if (one.changes != changes || one.known != k) {
            one.reckon(outlook, passes, skier);
            one.changes = changes;
        }
        return one;
    }

    /** A text cut into TOKENS, read one behind the other up to its first FAULT. */
    private static final class Tokens {
        private final int[] kinds = new int[TAPE_LIMIT + 1];
        private final int[] places = new int[TAPE_LIMIT + 1];
        private final long[] values = new long[TAPE_LIMIT + 1];
        private int count;
        private int at;
        private int fault;
        private int faultPlace = NONE;

        void cut(byte[] text, int length) {
            count = 0;
            at = 0;
            fault = 0;
            faultPlace = NONE;
            int place = 0;
            for (int n = 0; n < length && place < length; n++) {
                place = cutOne(text, place, length);
            }
            put(END, length, 0);
        }

        int kind() {
            return at < count ? kinds[at] : END;
        }

        long value() {
            return at < count ? values[at] : 0;
        }

        void step() {
            if (at < count - 1) {
                at++;
            }
        }

        /** Keeps the FAULT if it is the first; answers false, so that readers can return it. */
        boolean fail(int what) {
            if (fault == 0) {
                boolean bad = at < count && kinds[at] == BAD;
                fault = bad ? NO_TOKEN : what;
                faultPlace = at < count ? places[at] : NONE;
            }
            return false;
        }

        boolean expect(int kind) {
            if (fault != 0 || kind() != kind) {
                return fail(CANT_STAND);
            }
            step();
            return true;
        }

        /** The number behind a word; NONE at a FAULT, and behind one. */
        int numberBehind(int word, int least, int most) {
            if (!expect(word)) {
                return NONE;
            }
            if (kind() != NUMBER) {
                fail(CANT_STAND);
                return NONE;
            }
            int number = (int) value();
            if (number < least || number > most) {
                fail(CANT_BE);
                return NONE;
            }
            step();
            return number;
        }

        /** Cuts what begins at a place; answers the place behind it. */
        private int cutOne(byte[] text, int place, int length) {
            int c = text[place];
            if (c == ' ' || c == '\n') {
                return place + 1;
            }
            if (isLetter(c)) {
                return cutWord(text, place, length);
            }
            if (isDigit(c)) {
                return cutNumber(text, place, length);
            }
            put(isSign(c) ? c : BAD, place, 0);
            return place + 1;
        }

        private int cutWord(byte[] text, int place, int length) {
            if (isPlace(text, place, length)) {
                put(PLACE, place, text[place + 1] - '0');
                return place + 2;
            }
            int behind = place;
            long code = 0;
            while (behind < length && isLetter(text[behind])) {
                code = code * 32 + text[behind] - 'a' + 1;
                behind++;
            }
            put(behind - place > 8 ? BAD : wordKind(code), place, code);
            return behind;
        }

        private int cutNumber(byte[] text, int place, int length) {
            int behind = place;
            int number = 0;
            while (behind < length && isDigit(text[behind])) {
                number = behind - place < 4 ? number * 10 + text[behind] - '0' : number;
                behind++;
            }
            boolean bad = behind - place > 4 || behind < length && isLetter(text[behind]);
            put(bad ? BAD : NUMBER, place, number);
            return behind;
        }

        private void put(int kind, int place, long value) {
            if (count < kinds.length) {
                kinds[count] = kind;
                places[count] = place;
                values[count] = value;
                count++;
            }
        }

        private static boolean isPlace(byte[] text, int place, int length) {
            if (text[place] != 'p' || place + 1 >= length || !isDigit(text[place + 1])) {
                return false;
            }
            return place + 2 >= length || !isLetter(text[place + 2]) && !isDigit(text[place + 2]);
        }

        private static int wordKind(long code) {
            long word = 0;
            int kind = 0;
            for (int i = 0; i < WORDS.length(); i++) {
                int c = WORDS.charAt(i);
                if (c != ' ') {
                    word = word * 32 + c - 'a' + 1;
                } else if (word == code) {
                    return kind;
                } else {
                    word = 0;
                    kind++;
                }
            }
            return NAME;
        }

        private static boolean isLetter(int c) {
            return c >= 'a' && c <= 'z';
        }

        private static boolean isDigit(int c) {
            return c >= '0' && c <= '9';
        }

        private static boolean isSign(int c) {
            return c > 0 && SIGNS.indexOf((char) c) >= 0;
        }
    }

    /** The MOUNTAIN: its WAYS stand in rows by their numbers, LIFTS from 0, RUNS from 10 on. */
    private static final class Slopes {
        private int lifts;
        private int runs;
        private int lines;
        private int home;
        private boolean homeTold;
        private final long[] names = new long[WAYS];
        private final int[] starts = new int[WAYS];
        private final int[] ends = new int[WAYS];
        private final int[] takes = new int[WAYS];
        private final int[] seats = new int[MAX_LIFTS];
        private final int[] dutyFrom = new int[WAYS];
        private final int[] dutyTo = new int[WAYS];
        private final boolean[] gate = new boolean[WAYS];
        private final int[] grade = new int[WAYS];
        private final int[] snow = new int[WAYS];

        boolean has(int way) {
            return within(way, lifts) || way >= FIRST_RUN && way < FIRST_RUN + runs;
        }

        boolean fits(int way, int skill) {
            return grade[way] <= skill;
        }

        int minutes(int way, int skill) {
            if (way < FIRST_RUN) {
                return takes[way];
            }
            return Math.max(1, takes[way] - takes[way] * (skill - grade[way]) / 4);
        }

        boolean read(Tokens text) {
            for (int n = 0; n <= TAPE_LIMIT && text.kind() != END; n++) {
                if (!readLine(text)) {
                    return false;
                }
                lines++;
            }
            return true;
        }

        private boolean readLine(Tokens text) {
            int kind = text.kind();
            if (kind == LIFT && lifts < MAX_LIFTS) {
                return readLift(text, lifts);
            }
            if (kind == RUN && runs < MAX_RUNS) {
                return readRun(text, FIRST_RUN + runs);
            }
            if (kind == HOME && !homeTold) {
                return readHome(text);
            }
            return text.fail(CANT_STAND);
        }

        private boolean readLift(Tokens text, int way) {
            text.step();
            if (!readEnds(text, way)) {
                return false;
            }
            takes[way] = text.numberBehind(TAKES, 1, 30);
            seats[way] = text.numberBehind(SEATS, 1, 99);
            dutyFrom[way] = text.numberBehind(FROM, 0, DAY_MINUTES);
            dutyTo[way] = text.numberBehind(TO, dutyFrom[way] + 1, DAY_MINUTES);
            gate[way] = text.kind() == GATE;
            if (gate[way]) {
                text.step();
            }
            lifts++;
            return text.expect(';');
        }

        private boolean readRun(Tokens text, int way) {
            text.step();
            if (!readEnds(text, way)) {
                return false;
            }
            grade[way] = text.numberBehind(GRADE, 0, SKILLS - 1);
            takes[way] = text.numberBehind(TAKES, 1, 60);
            snow[way] = text.numberBehind(SNOW, 0, 300);
            dutyTo[way] = DAY_MINUTES;
            runs++;
            return text.expect(';');
        }

        private boolean readHome(Tokens text) {
            text.step();
            if (text.kind() != PLACE) {
                return text.fail(CANT_STAND);
            }
            home = (int) text.value();
            homeTold = true;
            text.step();
            return text.expect(';');
        }

        private boolean readEnds(Tokens text, int way) {
            if (text.kind() != NAME) {
                return text.fail(CANT_STAND);
            }
            if (hasName(text.value())) {
                return text.fail(NAME_TOLD);
            }
            names[way] = text.value();
            text.step();
            if (text.kind() != PLACE) {
                return text.fail(CANT_STAND);
            }
            starts[way] = (int) text.value();
            text.step();
            if (text.kind() != PLACE) {
                return text.fail(CANT_STAND);
            }
            ends[way] = (int) text.value();
            if (ends[way] == starts[way]) {
                return text.fail(SAME_PLACE);
            }
            text.step();
            return true;
        }

        private boolean hasName(long name) {
            for (long one : names) {
                if (one == name) {
                    return true;
                }
            }
            return false;
        }
    }

    /** The LAW: what shuts LIFTS and RUNS, in postfix order, so that it needs no tree. */
    private static final class Law {
        private static final int MAX_UNITS = 40;
        private static final int MAX_OTHERS = 6;

        private final int[] ops;
        private final int[] numbers;
        private int length;
        private int units;
        private int lines;
        private boolean ofRuns;
        private final int[] first = {NONE, NONE};
        private final int[] behind = {NONE, NONE};
        private final int[] stack = new int[MAX_UNITS + 1];

        /** Each TOKEN leaves one step at most. */
        Law(int tokens) {
            int room = Math.max(1, tokens);
            ops = new int[room];
            numbers = new int[room];
        }

        boolean shuts(Outlook at, int way, int hour) {
            int which = way < FIRST_RUN ? 0 : 1;
            int top = 0;
            for (int i = first[which]; i >= 0 && i < behind[which]; i++) {
                int op = ops[i];
                if (op == NOT) {
                    if (top > 0) {
                        stack[top - 1] = 1 - stack[top - 1];
                    }
                } else if (op == NUMBER || isWordUnit(op)) {
                    if (top < stack.length) {
                        stack[top] = op == NUMBER ? numbers[i] : unit(op, at, way, hour);
                        top++;
                    }
                } else if (top > 1) {
                    top--;
                    stack[top - 1] = joined(op, stack[top - 1], stack[top]);
                }
            }
            return top > 0 && stack[0] != 0;
        }

        private static int unit(int op, Outlook at, int way, int hour) {
            switch (op) {
                case HOUR: return hour;
                case WIND: return at.wind[hour];
                case FRESH: return at.fresh[hour];
                case SNOW: return at.slopes.snow[way] + at.fallen[hour];
                case GRADE: return at.slopes.grade[way];
                default: return at.slopes.takes[way];
            }
        }

        private static int joined(int op, int a, int b) {
            switch (op) {
                case '+': return a + b;
                case '-': return a - b;
                case '<': return a < b ? 1 : 0;
                case '>': return a > b ? 1 : 0;
                case '=': return a == b ? 1 : 0;
                case AND: return a & b;
                default: return a | b;
            }
        }

        private static boolean isWordUnit(int kind) {
            return kind == HOUR || kind == WIND || kind == FRESH || kind == SNOW
                || kind == GRADE || kind == TAKES;
        }

        boolean read(Tokens text) {
            for (int n = 0; n <= LAW_LIMIT && text.kind() != END; n++) {
                if (!readLine(text)) {
                    return false;
                }
                lines++;
            }
            return true;
        }

        private boolean readLine(Tokens text) {
            if (!text.expect(SHUT)) {
                return false;
            }
            ofRuns = text.kind() == RUN;
            int which = ofRuns ? 1 : 0;
            if (!ofRuns && text.kind() != LIFT || first[which] != NONE) {
                return text.fail(CANT_STAND);
            }
            text.step();
            if (!text.expect(IF)) {
                return false;
            }
            first[which] = length;
            boolean good = readEither(text, 0);
            behind[which] = length;
            return good && text.expect(';');
        }

        /** e, within so many others. */
        private boolean readEither(Tokens text, int others) {
            if (others > MAX_OTHERS + 1) {
                return text.fail(CANT_STAND);
            }
            boolean good = readBoth(text, others);
            for (int n = 0; n < LAW_LIMIT && good && text.kind() == OR; n++) {
                text.step();
                good = readBoth(text, others);
                put(OR, 0);
            }
            return good;
        }

        private boolean readBoth(Tokens text, int others) {
            boolean good = readOne(text, others);
            for (int n = 0; n < LAW_LIMIT && good && text.kind() == AND; n++) {
                text.step();
                good = readOne(text, others);
                put(AND, 0);
            }
            return good;
        }

        private boolean readOne(Tokens text, int others) {
            int depth = others;
            for (int n = 0; n < LAW_LIMIT && text.kind() == NOT; n++) {
                if (depth > MAX_OTHERS) {
                    return text.fail(CANT_STAND);
                }
                depth++;
                text.step();
            }
            boolean good = text.kind() == '(' ? readNested(text, depth) : readComparison(text);
            if ((depth - others) % 2 != 0) {
                put(NOT, 0);
            }
            return good;
        }

        private boolean readNested(Tokens text, int others) {
            if (others > MAX_OTHERS) {
                return text.fail(CANT_STAND);
            }
            text.step();
            return readEither(text, others + 1) && text.expect(')');
        }

        private boolean readComparison(Tokens text) {
            if (!readSum(text)) {
                return false;
            }
            int sign = text.kind();
            if (sign != '<' && sign != '>' && sign != '=') {
                return text.fail(CANT_STAND);
            }
            text.step();
            boolean good = readSum(text);
            put(sign, 0);
            return good;
        }

        private boolean readSum(Tokens text) {
            boolean good = readUnit(text);
            for (int n = 0; n < LAW_LIMIT && good && isPlusOrMinus(text.kind()); n++) {
                int sign = text.kind();
                text.step();
                good = readUnit(text);
                put(sign, 0);
            }
            return good;
        }

        private boolean readUnit(Tokens text) {
            int kind = text.kind();
            if (kind != NUMBER && !isWordUnit(kind) || units >= MAX_UNITS) {
                return text.fail(CANT_STAND);
            }
            if (!ofRuns && (kind == SNOW || kind == GRADE)) {
                return text.fail(NOT_OF_LIFTS);
            }
            units++;
            put(kind, (int) text.value());
            text.step();
            return true;
        }

        private static boolean isPlusOrMinus(int kind) {
            return kind == '+' || kind == '-';
        }

        private void put(int op, int number) {
            if (length < ops.length) {
                ops[length] = op;
                numbers[length] = number;
                length++;
            }
        }
    }

    /** Numbered tellings of three numbers each, TOLD at a TIME and UNTOLD at another. */
    private static final class Tellings {
        private final int[] told;
        private final int[] untold;
        private final int[] firsts;
        private final int[] seconds;
        private final int[] thirds;
        private int count;

        Tellings(int limit) {
            int room = Math.max(0, limit);
            told = new int[room];
            untold = new int[room];
            firsts = new int[room];
            seconds = new int[room];
            thirds = new int[room];
        }

        int tell(int time, int first, int second, int third) {
            if (count >= told.length) {
                return NONE;
            }
            told[count] = time;
            untold[count] = NONE;
            firsts[count] = first;
            seconds[count] = second;
            thirds[count] = third;
            count++;
            return count - 1;
        }

        boolean takeBack(int n, int time) {
            if (!within(n, count) || untold[n] != NONE) {
                return false;
            }
            untold[n] = time;
            return true;
        }

        boolean counts(int n, int k) {
            return told[n] <= k && (untold[n] == NONE || untold[n] > k);
        }
    }

    /** WEATHER and what is SHUT in each HOUR, as known at a k. */
    private static final class Outlook {
        private final int[] wind = new int[HOURS];
        private final int[] fresh = new int[HOURS];
        private final int[] fallen = new int[HOURS];
        private final int[] shut = new int[HOURS];
        private Slopes slopes;
        private int changes = NONE;
        private int known;

        Outlook(Slopes slopes) {
            this.slopes = slopes;
        }

        void look(Slopes mountain, Law law, Tellings weather, int k) {
            slopes = mountain;
            known = k;
            Arrays.fill(wind, NONE);
            Arrays.fill(fresh, 0);
            for (int n = 0; n < weather.count; n++) {
                if (weather.counts(n, k)) {
                    int hour = weather.firsts[n];
                    wind[hour] = weather.seconds[n];
                    fresh[hour] = weather.thirds[n];
                }
            }
            int windBefore = 0;
            int fallenBefore = 0;
            for (int hour = 0; hour < HOURS; hour++) {
                wind[hour] = wind[hour] == NONE ? windBefore : wind[hour];
                fallen[hour] = fallenBefore + fresh[hour];
                windBefore = wind[hour];
                fallenBefore = fallen[hour];
                shut[hour] = shutIn(hour, law);
            }
        }

        private int shutIn(int hour, Law law) {
            int ways = 0;
            for (int way = 0; way < WAYS; way++) {
                if (slopes.has(way) && law.shuts(this, way, hour)) {
                    ways |= 1 << way;
                }
            }
            return ways;
        }

        boolean isShut(int way, int minute) {
            return (shut[hourOf(minute)] >> way & 1) != 0;
        }

        boolean isOpen(int way, int minute) {
            boolean onDuty = minute >= slopes.dutyFrom[way] && minute < slopes.dutyTo[way];
            return onDuty && !isShut(way, minute);
        }

        /** The first MINUTE from one on at which a WAY is OPEN. */
        int firstOpen(int way, int minute) {
            int at = Math.max(minute, slopes.dutyFrom[way]);
            for (int n = 0; n <= HOURS && at < slopes.dutyTo[way]; n++) {
                if (!isShut(way, at)) {
                    return at;
                }
                at = (hourOf(at) + 1) * HOUR_MINUTES;
            }
            return NONE;
        }

        /** The last MINUTE up to one at which a WAY is OPEN. */
        int lastOpen(int way, int minute) {
            int at = Math.min(minute, slopes.dutyTo[way] - 1);
            for (int n = 0; n <= HOURS && at >= slopes.dutyFrom[way]; n++) {
                if (!isShut(way, at)) {
                    return at;
                }
                at = hourOf(at) * HOUR_MINUTES - 1;
            }
            return NONE;
        }
    }

    /** SOONEST, its WAYS, and LAST. */
    private static final class Routes {
        private final Outlook outlook;
        private final int[] earliest = new int[PLACES];
        private final int[] latest = new int[PLACES];

        Routes(Outlook outlook) {
            this.outlook = outlook;
        }

        int firstMinuteAt(int skill, int from, int minute, int to) {
            Arrays.fill(earliest, FAR);
            earliest[from] = minute;
            boolean better = true;
            for (int n = 0; n < PLACES && better; n++) {
                better = false;
                for (int way = 0; way < WAYS; way++) {
                    better |= outlook.slopes.has(way) && comesEarlier(way, skill);
                }
            }
            return earliest[to] == FAR ? NONE : earliest[to];
        }

        private boolean comesEarlier(int way, int skill) {
            Slopes slopes = outlook.slopes;
            int begin = slopes.starts[way];
            int end = slopes.ends[way];
            if (earliest[begin] == FAR) {
                return false;
            }
            int there = behind(way, skill, earliest[begin]);
            if (there == NONE || there >= earliest[end]) {
                return false;
            }
            earliest[end] = there;
            return true;
        }

        /** When a WAY ends that is begun from a MINUTE on as soon as it can be. */
        private int behind(int way, int skill, int minute) {
            if (!outlook.slopes.fits(way, skill)) {
                return NONE;
            }
            int begun = outlook.firstOpen(way, minute);
            return begun == NONE ? NONE : begun + outlook.slopes.minutes(way, skill);
        }

        int wayOf(int skill, int from, int minute, int to, int n) {
            int by = firstMinuteAt(skill, from, minute, to);
            if (by == NONE) {
                return NONE;
            }
            findLatest(skill, to, by);
            int p = from;
            int at = minute;
            for (int i = 0; i <= LATEST && p != to; i++) {
                int way = nextWay(skill, p, at);
                if (way == NONE || i == n) {
                    return way;
                }
                at = behind(way, skill, at);
                p = outlook.slopes.ends[way];
            }
            return NONE;
        }

        /** The first WAY by number behind which one is still in time. */
        private int nextWay(int skill, int p, int minute) {
            Slopes slopes = outlook.slopes;
            for (int way = 0; way < WAYS; way++) {
                if (slopes.has(way) && slopes.starts[way] == p) {
                    int there = behind(way, skill, minute);
                    if (there != NONE && there <= latest[slopes.ends[way]]) {
                        return way;
                    }
                }
            }
            return NONE;
        }

        /** The last MINUTE from which one comes from a P to another at all; FAR if they are one. */
        int lastMinuteAt(int skill, int from, int to) {
            findLatest(skill, to, FAR);
            return latest[from];
        }

        /** For each P the last MINUTE from which one comes to another by a MINUTE. */
        private void findLatest(int skill, int to, int by) {
            Arrays.fill(latest, NONE);
            latest[to] = by;
            boolean better = true;
            for (int n = 0; n < PLACES && better; n++) {
                better = false;
                for (int way = 0; way < WAYS; way++) {
                    better |= outlook.slopes.has(way) && goesLater(way, skill);
                }
            }
        }

        private boolean goesLater(int way, int skill) {
            Slopes slopes = outlook.slopes;
            int begin = slopes.starts[way];
            int end = slopes.ends[way];
            if (latest[end] == NONE || !slopes.fits(way, skill)) {
                return false;
            }
            int begun = outlook.lastOpen(way, latest[end] - slopes.minutes(way, skill));
            if (begun <= latest[begin]) {
                return false;
            }
            latest[begin] = begun;
            return true;
        }
    }

    /** A SKIER, with the sets of P (a bit each) where he CAN stand in each MINUTE. */
    private static final class Skier {
        private static final int CLASH = -2;
        private static final int EVERYWHERE = (1 << PLACES) - 1;

        private final int skill;
        private final int[] passAt = new int[DAY_MINUTES];
        private final int[] beginnings = new int[DAY_MINUTES];
        private final int[] reached = new int[LATEST + 1];
        private final int[] goesOn = new int[LATEST + 1];
        private final int[] minutes = new int[WAYS];
        private Slopes slopes;
        private int changes = NONE;
        private int known;

        Skier(int skill, Slopes slopes) {
            this.skill = skill;
            this.slopes = slopes;
        }

        void reckon(Outlook outlook, Tellings passes, int number) {
            known = outlook.known;
            slopes = outlook.slopes;
            for (int way = 0; way < WAYS; way++) {
                minutes[way] = slopes.minutes(way, skill);
            }
            findPasses(passes, number);
            findBeginnings(outlook);
            findReached();
            findGoesOn();
        }

        boolean canStand(int p, int minute) {
            return (reached[minute] & goesOn[minute] & 1 << p) != 0;
        }

        boolean canRide(int way, int minute) {
            int earliest = Math.max(0, minute - minutes[way] + 1);
            for (int begun = earliest; begun <= minute && begun < DAY_MINUTES; begun++) {
                if ((reached[begun] >> slopes.starts[way] & 1) != 0 && leadsOn(way, begun)) {
                    return true;
                }
            }
            return false;
        }

        private void findPasses(Tellings passes, int number) {
            Arrays.fill(passAt, NONE);
            for (int n = 0; n < passes.count; n++) {
                if (passes.firsts[n] == number && passes.counts(n, known)) {
                    int lift = passes.seconds[n];
                    int minute = passes.thirds[n];
                    boolean alone = passAt[minute] == NONE || passAt[minute] == lift;
                    passAt[minute] = alone ? lift : CLASH;
                }
            }
        }

        /** Which WAYS (a bit each) he may begin in each MINUTE, if he stands there. */
        private void findBeginnings(Outlook outlook) {
            int nextPass = FAR;
            for (int minute = DAY_MINUTES - 1; minute >= 0; minute--) {
                int ways = 0;
                for (int way = 0; way < WAYS; way++) {
                    boolean inTime = minute + minutes[way] <= nextPass;
                    if (inTime && slopes.has(way) && mayBegin(outlook, way, minute)) {
                        ways |= 1 << way;
                    }
                }
                beginnings[minute] = ways;
                nextPass = passAt[minute] == NONE ? nextPass : minute;
            }
        }

        private boolean mayBegin(Outlook outlook, int way, int minute) {
            if (slopes.gate[way]) {
                return passAt[minute] == way;
            }
            return passAt[minute] == NONE && slopes.fits(way, skill) && outlook.isOpen(way, minute);
        }

        /** Where he can stand by what he did up to each MINUTE. */
        private void findReached() {
            Arrays.fill(reached, 0);
            reached[0] = 1 << slopes.home;
            for (int minute = 0; minute < LATEST; minute++) {
                int here = reached[minute];
                if (mayStay(minute)) {
                    reached[minute + 1] |= here;
                }
                int ways = minute < DAY_MINUTES && here != 0 ? beginnings[minute] : 0;
                for (int way = 0; way < WAYS && ways >> way != 0; way++) {
                    if ((ways >> way & here >> slopes.starts[way] & 1) != 0) {
                        reached[minute + minutes[way]] |= 1 << slopes.ends[way];
                    }
                }
            }
        }

        /** From where he can still do what the PASSES of each MINUTE and behind it tell. */
        private void findGoesOn() {
            Arrays.fill(goesOn, EVERYWHERE);
            for (int minute = DAY_MINUTES - 1; minute >= 0; minute--) {
                int from = mayStay(minute) ? goesOn[minute + 1] : 0;
                for (int way = 0; way < WAYS; way++) {
                    if (leadsOn(way, minute)) {
                        from |= 1 << slopes.starts[way];
                    }
                }
                goesOn[minute] = from;
            }
        }

        private boolean leadsOn(int way, int minute) {
            if ((beginnings[minute] >> way & 1) == 0) {
                return false;
            }
            return (goesOn[minute + minutes[way]] >> slopes.ends[way] & 1) != 0;
        }

        private boolean mayStay(int minute) {
            return minute >= DAY_MINUTES || passAt[minute] == NONE;
        }
    }

    /** What is told of CROWDS: ARRIVALS, TURNS and MAKERS. */
    private static final class Crowds {
        private final int[] arrivalMinutes = new int[MAX_ARRIVALS];
        private final int[] arrivalSizes = new int[MAX_ARRIVALS];
        private int arrivals;
        private final int[] turns = new int[PLACES * MAX_TURNS];
        private final int[] turnCounts = new int[PLACES];
        private final int[] makers = new int[MAX_RUNS];

        void forgetWays() {
            Arrays.fill(turnCounts, 0);
            Arrays.fill(makers, 0);
        }

        int addArrivals(int minute, int many) {
            if (arrivals >= MAX_ARRIVALS) {
                return NONE;
            }
            arrivalMinutes[arrivals] = minute;
            arrivalSizes[arrivals] = many;
            arrivals++;
            return arrivals;
        }

        int addTurn(int p, int way) {
            if (turnCounts[p] >= MAX_TURNS) {
                return NONE;
            }
            turns[p * MAX_TURNS + turnCounts[p]] = way;
            turnCounts[p]++;
            return turnCounts[p];
        }
    }

    /** The CROWDS' day, and what was so behind each of its MINUTES. */
    private static final class Day {
        private static final int MM_A_CM = 10;
        private static final int LEAST_SNOW = 10;
        private static final int MAKERS_WIND = 30;

        private final Crowds crowds;
        private final Outlook outlook;
        private boolean wasRun;
        private final int[] undecidedThen = new int[DAY_MINUTES * PLACES];
        private final int[] queuedThen = new int[DAY_MINUTES * PLACES];
        private final int[] snowThen = new int[DAY_MINUTES * MAX_RUNS];
        private final int[] taken = new int[WAYS];
        private final int[] longest = new int[WAYS];
        private final int[] coming = new int[DAY_MINUTES * PLACES];
        private final int[] undecided = new int[PLACES];
        private final int[] nextTurn = new int[PLACES];
        private final int[] queued = new int[WAYS];
        private final int[] snow = new int[WAYS];

        Day(Crowds crowds, Outlook outlook) {
            this.crowds = crowds;
            this.outlook = outlook;
        }

        void runThrough() {
            begin();
            for (int minute = 0; minute < DAY_MINUTES; minute++) {
                letSnow(minute);
                for (int p = 0; p < PLACES; p++) {
                    undecided[p] += coming[minute * PLACES + p];
                    undecided[p] = takeTurns(p, undecided[p], minute);
                }
                for (int lift = 0; lift < outlook.slopes.lifts; lift++) {
                    letOn(lift, minute);
                }
                keep(minute);
            }
            wasRun = true;
        }

        /** How many are at a P behind the last MINUTE. */
        int standing(int p) {
            int row = (DAY_MINUTES - 1) * PLACES + p;
            return undecidedThen[row] + queuedThen[row];
        }

        private void begin() {
            Arrays.fill(taken, 0);
            Arrays.fill(longest, 0);
            Arrays.fill(coming, 0);
            Arrays.fill(undecided, 0);
            Arrays.fill(nextTurn, 0);
            Arrays.fill(queued, 0);
            for (int way = 0; way < WAYS; way++) {
                snow[way] = outlook.slopes.snow[way] * MM_A_CM;
            }
            for (int n = 0; n < crowds.arrivals; n++) {
                int row = crowds.arrivalMinutes[n] * PLACES + outlook.slopes.home;
                coming[row] += crowds.arrivalSizes[n];
            }
        }

        private void letSnow(int minute) {
            int hour = hourOf(minute);
            boolean hourBegins = minute % HOUR_MINUTES == 0;
            for (int run = 0; run < outlook.slopes.runs; run++) {
                if (hourBegins) {
                    snow[FIRST_RUN + run] += outlook.fresh[hour] * MM_A_CM;
                }
                if (outlook.wind[hour] < MAKERS_WIND) {
                    snow[FIRST_RUN + run] += crowds.makers[run];
                }
            }
        }

        /** So many at a P take TURNS; answers how many of them stay undecided. */
        private int takeTurns(int p, int many, int minute) {
            int left = many;
            for (int n = 0; n < many && left > 0; n++) {
                left -= takeRounds(p, left, minute);
                if (left > 0) {
                    int turn = takeable(p, nextTurn[p], 1, minute);
                    if (turn == NONE) {
                        return left;
                    }
                    take(crowds.turns[p * MAX_TURNS + turn], 1, minute);
                    nextTurn[p] = turn + 1 < crowds.turnCounts[p] ? turn + 1 : 0;
                    left--;
                }
            }
            return left;
        }

        /**
         * Takes as many whole rounds of the TURNS at once as no RUN comes to its end of snow in:
         * thousands who come in one MINUTE need not be led on one by one.
         */
        private int takeRounds(int p, int many, int minute) {
            int row = p * MAX_TURNS;
            int size = crowds.turnCounts[p];
            int inRound = 0;
            int rounds = many;
            for (int i = row; i < row + size; i++) {
                if (isTakeable(crowds.turns[i], minute)) {
                    inRound++;
                    rounds = Math.min(rounds, roundsOf(p, crowds.turns[i]));
                }
            }
            rounds = inRound == 0 ? 0 : Math.min(rounds, many / inRound);
            if (rounds == 0) {
                return 0;
            }
            // The round ends behind the last one ahead of where it begins; it is sought before
            // the taking, as the taking may use a RUN's snow up.
            int last = takeable(p, nextTurn[p] + size - 1, size - 1, minute);
            for (int i = row; i < row + size; i++) {
                if (isTakeable(crowds.turns[i], minute)) {
                    take(crowds.turns[i], rounds, minute);
                }
            }
            nextTurn[p] = last + 1 < size ? last + 1 : 0;
            return rounds * inRound;
        }

        /** How many whole rounds a WAY of a P's TURNS can be taken in. */
        private int roundsOf(int p, int way) {
            if (way < FIRST_RUN) {
                return FAR;
            }
            int times = 0;
            for (int i = 0; i < crowds.turnCounts[p]; i++) {
                times += crowds.turns[p * MAX_TURNS + i] == way ? 1 : 0;
            }
            return times == 0 ? FAR : (snow[way] - LEAST_SNOW + 1) / times;
        }

        /** The first turn that can be taken, going through all from one on by steps; NONE. */
        private int takeable(int p, int from, int step, int minute) {
            int size = crowds.turnCounts[p];
            for (int n = 0; n < size; n++) {
                int turn = (from + n * step) % size;
                if (isTakeable(crowds.turns[p * MAX_TURNS + turn], minute)) {
                    return turn;
                }
            }
            return NONE;
        }

        private boolean isTakeable(int way, int minute) {
            if (outlook.isShut(way, minute)) {
                return false;
            }
            return way < FIRST_RUN ? minute < outlook.slopes.dutyTo[way] : snow[way] >= LEAST_SNOW;
        }

        private void take(int way, int many, int minute) {
            if (way < FIRST_RUN) {
                queued[way] += many;
            } else {
                snow[way] -= many;
                start(way, many, minute);
            }
        }

        private void start(int way, int many, int minute) {
            taken[way] += many;
            int there = minute + outlook.slopes.takes[way];
            if (there < DAY_MINUTES) {
                coming[there * PLACES + outlook.slopes.ends[way]] += many;
            }
        }

        private void letOn(int lift, int minute) {
            if (outlook.isOpen(lift, minute)) {
                int on = Math.min(queued[lift], outlook.slopes.seats[lift]);
                queued[lift] -= on;
                start(lift, on, minute);
            }
            if (minute + 1 == outlook.slopes.dutyTo[lift]) {
                undecided[outlook.slopes.starts[lift]] += queued[lift];
                queued[lift] = 0;
            }
            longest[lift] = Math.max(longest[lift], queued[lift]);
        }

        private void keep(int minute) {
            int row = minute * PLACES;
            for (int p = 0; p < PLACES; p++) {
                undecidedThen[row + p] = undecided[p];
                queuedThen[row + p] = 0;
            }
            for (int lift = 0; lift < outlook.slopes.lifts; lift++) {
                queuedThen[row + outlook.slopes.starts[lift]] += queued[lift];
            }
            for (int run = 0; run < MAX_RUNS; run++) {
                snowThen[minute * MAX_RUNS + run] = snow[FIRST_RUN + run];
            }
        }
    }

    /** SWEEPS: RUNS are given to patrollers in the order in which they are begun, all orders tried. */
    private static final class Sweeps {
        private static final int UNKNOWN = -2;

        private final int[] answers = new int[2 * PLACES];
        private final int[] between = new int[PLACES * PLACES];
        private final int[] above = new int[MAX_RUNS];
        private final int[] sweptAt = new int[MAX_RUNS];
        private final int[] stands = new int[2];
        private final int[] free = new int[2];
        private Slopes slopes;
        private int patrollers;
        private int best;

        Sweeps(Slopes slopes) {
            forget(slopes);
        }

        /** Another MOUNTAIN is told. */
        private void forget(Slopes mountain) {
            slopes = mountain;
            Arrays.fill(answers, UNKNOWN);
            findBetween();
            findAbove();
        }

        int least(int p, int many) {
            int row = (many - 1) * PLACES + p;
            if (answers[row] == UNKNOWN) {
                patrollers = many;
                best = FAR;
                Arrays.fill(stands, p);
                Arrays.fill(free, 0);
                goOn(this, 0, 0, 0);
                answers[row] = best == FAR ? NONE : best;
            }
            return answers[row];
        }

        private void findBetween() {
            for (int i = 0; i < between.length; i++) {
                between[i] = i / PLACES == i % PLACES ? 0 : FAR;
            }
            for (int way = 0; way < WAYS; way++) {
                if (slopes.has(way)) {
                    int i = slopes.starts[way] * PLACES + slopes.ends[way];
                    between[i] = Math.min(between[i], slopes.takes[way]);
                }
            }
            for (int over = 0; over < PLACES; over++) {
                for (int i = 0; i < between.length; i++) {
                    int round = between[i / PLACES * PLACES + over] + between[over * PLACES + i % PLACES];
                    between[i] = Math.min(between[i], round);
                }
            }
        }

        /** For each RUN the set of those that end where it begins. */
        private void findAbove() {
            Arrays.fill(above, 0);
            for (int run = 0; run < slopes.runs; run++) {
                for (int other = 0; other < slopes.runs; other++) {
                    if (slopes.ends[FIRST_RUN + other] == slopes.starts[FIRST_RUN + run]) {
                        above[run] |= 1 << other;
                    }
                }
            }
        }

        /** Tries all that can be begun next, at a MINUTE or behind it; depth RUNS are begun. */
        private static void goOn(Sweeps s, int begun, int minute, int depth) {
            if (depth >= s.slopes.runs) {
                s.best = Math.min(s.best, Math.max(s.free[0], s.free[1]));
                return;
            }
            if (depth >= MAX_RUNS || !s.canBeBetter(begun)) {
                return;
            }
            // At first both stand at one P: whoever begins first may be the first of them.
            int who = depth == 0 ? 1 : s.patrollers;
            for (int i = 0; i < who * s.slopes.runs; i++) {
                int one = i / s.slopes.runs;
                int run = i % s.slopes.runs;
                if ((begun >> run & 1) == 0 && (s.above[run] & ~begun) == 0) {
                    int start = s.startOf(one, run);
                    if (start >= minute && start + s.slopes.takes[FIRST_RUN + run] < s.best) {
                        goDown(s, one, run, begun, start, depth);
                    }
                }
            }
        }

        private static void goDown(Sweeps s, int one, int run, int begun, int start, int depth) {
            int stood = s.stands[one];
            int freeBefore = s.free[one];
            s.stands[one] = s.slopes.ends[FIRST_RUN + run];
            s.free[one] = start + s.slopes.takes[FIRST_RUN + run];
            s.sweptAt[run] = s.free[one];
            goOn(s, begun | 1 << run, start, depth + 1);
            s.stands[one] = stood;
            s.free[one] = freeBefore;
        }

        private int startOf(int one, int run) {
            int start = free[one] + between[stands[one] * PLACES + slopes.starts[FIRST_RUN + run]];
            for (int other = 0; other < slopes.runs; other++) {
                if ((above[run] >> other & 1) != 0) {
                    start = Math.max(start, sweptAt[other]);
                }
            }
            return start;
        }

        /** Whether the RUNS that are left could end before the best, without a MINUTE between them. */
        private boolean canBeBetter(int begun) {
            int minutes = free[0] + free[1];
            for (int run = 0; run < slopes.runs; run++) {
                minutes += (begun >> run & 1) == 0 ? slopes.takes[FIRST_RUN + run] : 0;
            }
            return minutes < best * patrollers;
        }
    }
}
