import java.util.ArrayDeque;
import java.util.ArrayList;
import java.util.HashMap;
import java.util.HashSet;
import java.util.List;
import java.util.Map;
import java.util.Set;
import java.util.regex.Matcher;
import java.util.regex.Pattern;

/** The document once more, in the slowest and plainest form, with the Java library. */
final class Plain {
    static final int NONE = -1;

    static final class Fault extends Exception {
        private static final long serialVersionUID = 1;
        final int kind;
        final int place;

        Fault(int kind, int place) {
            super(null, null, false, false);
            this.kind = kind;
            this.place = place;
        }
    }

    static final class Token {
        final String text;
        final int place;

        Token(String text, int place) {
            this.text = text;
            this.place = place;
        }
    }

    static final class Way {
        int number, from, to, takes, seats, on, off, grade, snow;
        boolean gate, lift;
        String name;

        int minutes(int skill) {
            if (lift) {
                return takes;
            }
            int less = 0;
            for (int quarters = takes * (skill - grade); quarters >= 4; quarters -= 4) {
                less++;
            }
            return takes - less < 1 ? 1 : takes - less;
        }

        boolean fits(int skill) {
            return lift || grade <= skill;
        }
    }

    static final class Told {
        final int at;
        Integer until;
        final int[] what;

        Told(int at, int... what) {
            this.at = at;
            this.what = what;
        }

        boolean counts(int k) {
            return at <= k && !(until != null && until <= k);
        }
    }

    interface Value {
        int of(Way way, int hour, int k);
    }

    final StringBuilder tape = new StringBuilder();
    List<Way> ways = new ArrayList<>();
    int lines, home, time, faultKind, faultPlace = NONE;
    Value shutLift, shutRun;
    final List<Told> weather = new ArrayList<>();
    List<Told> passes = new ArrayList<>();
    final List<Integer> skills = new ArrayList<>();
    final List<int[]> arrivals = new ArrayList<>();
    Map<Integer, List<Integer>> turns = new HashMap<>();
    int[] makers = new int[7];
    boolean ran;
    final int[][] undecidedThen = new int[480][10];
    final int[][] queuedThen = new int[480][10];
    final int[][] snowThen = new int[480][7];
    final int[] taken = new int[17];
    final int[] longest = new int[17];

    // ---- texts

    private static final String OWN = " lift run home takes seats from to gate grade snow shut if or and not"
        + " hour wind fresh ";
    private static final Pattern TOKEN = Pattern.compile("p[0-9](?![a-z0-9])|[a-z]+|[0-9]+|[;()<>=+-]");

    static boolean isWord(String t) {
        return t.matches("[a-z]{1,8}");
    }

    static boolean isOwn(String t) {
        return isWord(t) && OWN.contains(" " + t + " ");
    }

    /** Up to the first that is no TOKEN (text null) or the end (text empty). */
    static List<Token> tokens(String text) {
        List<Token> all = new ArrayList<>();
        int at = 0;
        while (at < text.length()) {
            char c = text.charAt(at);
            if (c == 32 || c == 10) {
                at++;
                continue;
            }
            Matcher m = TOKEN.matcher(text);
            if (!m.find(at) || m.start() != at) {
                all.add(new Token(null, at));
                return all;
            }
            String t = m.group();
            boolean number = t.matches("[0-9]+");
            boolean letterBehind = m.end() < text.length() && Character.toString(text.charAt(m.end())).matches("[a-z]");
            if (t.matches("[a-z]{9,}") || number && (t.length() > 4 || letterBehind)) {
                all.add(new Token(null, at));
                return all;
            }
            all.add(new Token(t, at));
            at = m.end();
        }
        all.add(new Token("", text.length()));
        return all;
    }

    static final class Reader {
        final List<Token> all;
        int at;

        Reader(String text) {
            all = tokens(text);
        }

        String see() {
            return all.get(at).text == null ? "?" : all.get(at).text;
        }

        Fault fault(int kind) {
            return new Fault(all.get(at).text == null ? 1 : kind, all.get(at).place);
        }

        String next(String pattern) throws Fault {
            String t = see();
            if (all.get(at).text == null || !t.matches(pattern)) {
                throw fault(2);
            }
            at++;
            return t;
        }

        int number(int least, int most) throws Fault {
            int n = Integer.parseInt(next("[0-9]+"));
            if (n < least || n > most) {
                at--;
                throw fault(4);
            }
            return n;
        }
    }

    String takeTape() {
        String text = tape.toString();
        tape.setLength(0);
        return text;
    }

    int mountain() {
        try {
            readMountain(new Reader(takeTape()));
            faultKind = 0;
            faultPlace = NONE;
            return lines;
        } catch (Fault f) {
            faultKind = f.kind;
            faultPlace = f.place;
            return NONE;
        }
    }

    private void readMountain(Reader r) throws Fault {
        List<Way> told = new ArrayList<>();
        Set<String> names = new HashSet<>();
        int lifts = 0;
        int runs = 0;
        int homes = 0;
        int at = 0;
        while (!r.see().isEmpty()) {
            if (r.see().equals("home") && homes == 0) {
                r.at++;
                homes++;
                at = r.next("p[0-9]").charAt(1) - '0';
                r.next(";");
                continue;
            }
            Way w = new Way();
            w.lift = r.see().equals("lift");
            if (w.lift ? lifts == 6 : !r.see().equals("run") || runs == 7) {
                throw r.fault(2);
            }
            r.at++;
            if (!isWord(r.see()) || isOwn(r.see())) {
                throw r.fault(2);
            }
            if (!names.add(r.see())) {
                throw r.fault(3);
            }
            w.name = r.next(".*");
            w.from = r.next("p[0-9]").charAt(1) - '0';
            w.to = r.next("p[0-9]").charAt(1) - '0';
            if (w.from == w.to) {
                r.at--;
                throw r.fault(5);
            }
            if (w.lift) {
                r.next("takes");
                w.takes = r.number(1, 30);
                r.next("seats");
                w.seats = r.number(1, 99);
                r.next("from");
                w.on = r.number(0, 480);
                r.next("to");
                w.off = r.number(w.on + 1, 480);
                if (r.see().equals("gate")) {
                    w.gate = true;
                    r.at++;
                }
                w.number = lifts++;
            } else {
                r.next("grade");
                w.grade = r.number(0, 3);
                r.next("takes");
                w.takes = r.number(1, 60);
                r.next("snow");
                w.snow = r.number(0, 300);
                w.off = 480;
                w.number = 10 + runs++;
            }
            r.next(";");
            told.add(w);
        }
        told.sort((a, b) -> a.number - b.number);
        ways = told;
        home = at;
        lines = told.size() + homes;
        passes = new ArrayList<>();
        turns = new HashMap<>();
        makers = new int[7];
        ran = false;
    }

    private int units;

    int law() {
        if (tape.length() > 500) {
            return -2;
        }
        try {
            Reader r = new Reader(takeTape());
            Value lift = null;
            Value run = null;
            units = 0;
            int many = 0;
            while (!r.see().isEmpty()) {
                r.next("shut");
                boolean ofLifts = r.see().equals("lift");
                if (ofLifts ? lift != null : !r.see().equals("run") || run != null) {
                    throw r.fault(2);
                }
                r.at++;
                r.next("if");
                Value e = either(r, ofLifts, 0);
                r.next(";");
                lift = ofLifts ? e : lift;
                run = ofLifts ? run : e;
                many++;
            }
            shutLift = lift;
            shutRun = run;
            faultKind = 0;
            faultPlace = NONE;
            ran = false;
            return many;
        } catch (Fault f) {
            faultKind = f.kind;
            faultPlace = f.place;
            return NONE;
        }
    }

    private Value either(Reader r, boolean ofLifts, int others) throws Fault {
        Value left = both(r, ofLifts, others);
        while (r.see().equals("or")) {
            r.at++;
            Value a = left;
            Value b = both(r, ofLifts, others);
            left = (w, h, k) -> a.of(w, h, k) + b.of(w, h, k) > 0 ? 1 : 0;
        }
        return left;
    }

    private Value both(Reader r, boolean ofLifts, int others) throws Fault {
        Value left = one(r, ofLifts, others);
        while (r.see().equals("and")) {
            r.at++;
            Value a = left;
            Value b = one(r, ofLifts, others);
            left = (w, h, k) -> a.of(w, h, k) * b.of(w, h, k);
        }
        return left;
    }

    private Value one(Reader r, boolean ofLifts, int others) throws Fault {
        if (r.see().equals("not") || r.see().equals("(")) {
            if (others >= 7) {
                throw r.fault(2);
            }
            boolean not = r.see().equals("not");
            r.at++;
            if (not) {
                Value a = one(r, ofLifts, others + 1);
                return (w, h, k) -> a.of(w, h, k) == 0 ? 1 : 0;
            }
            Value a = either(r, ofLifts, others + 1);
            r.next("\\)");
            return a;
        }
        Value a = sum(r, ofLifts);
        String sign = r.next("[<>=]");
        Value b = sum(r, ofLifts);
        return (w, h, k) -> {
            int way = Integer.compare(a.of(w, h, k), b.of(w, h, k));
            return way == (sign.equals("<") ? -1 : sign.equals(">") ? 1 : 0) ? 1 : 0;
        };
    }

    private Value sum(Reader r, boolean ofLifts) throws Fault {
        Value left = unit(r, ofLifts);
        while (r.see().equals("+") || r.see().equals("-")) {
            int sign = r.next(".").equals("+") ? 1 : -1;
            Value a = left;
            Value b = unit(r, ofLifts);
            left = (w, h, k) -> a.of(w, h, k) + sign * b.of(w, h, k);
        }
        return left;
    }

    private Value unit(Reader r, boolean ofLifts) throws Fault {
        String t = r.see();
        if (!t.matches("[0-9]+|hour|wind|fresh|snow|grade|takes") || units == 40) {
            throw r.fault(2);
        }
        if (ofLifts && t.matches("snow|grade")) {
            throw r.fault(6);
        }
        units++;
        r.at++;
        switch (t) {
            case "hour": return (w, h, k) -> h;
            case "wind": return (w, h, k) -> wind(h, k);
            case "fresh": return (w, h, k) -> fresh(h, k);
            case "snow": return (w, h, k) -> {
                int snow = w.snow;
                for (int i = 0; i <= h; i++) {
                    snow += fresh(i, k);
                }
                return snow;
            };
            case "grade": return (w, h, k) -> w.grade;
            case "takes": return (w, h, k) -> w.takes;
            default:
                int n = Integer.parseInt(t);
                return (w, h, k) -> n;
        }
    }

    // ---- weather

    private Told toldOf(int hour, int k) {
        for (int n = weather.size() - 1; n >= 0; n--) {
            if (weather.get(n).what[0] == hour && weather.get(n).counts(k)) {
                return weather.get(n);
            }
        }
        return null;
    }

    int wind(int hour, int k) {
        Told t = toldOf(hour, k);
        return t != null ? t.what[1] : hour == 0 ? 0 : wind(hour - 1, k);
    }

    int fresh(int hour, int k) {
        Told t = toldOf(hour, k);
        return t == null ? 0 : t.what[2];
    }

    Way wayOf(int number) {
        for (Way w : ways) {
            if (w.number == number) {
                return w;
            }
        }
        return null;
    }

    boolean shut(Way w, int minute, int k) {
        Value e = w.lift ? shutLift : shutRun;
        return e != null && e.of(w, Math.min(minute / 60, 7), k) == 1;
    }

    boolean open(Way w, int minute, int k) {
        return minute >= w.on && minute < w.off && !shut(w, minute, k);
    }

    // ---- ways

    /** All minutes and P where one can stand, from one on. */
    private boolean[][] reach(int skill, int from, int minute, int k) {
        boolean[][] at = new boolean[700][10];
        at[minute][from] = true;
        for (int m = minute; m < 600; m++) {
            for (int p = 0; p < 10; p++) {
                if (at[m][p]) {
                    at[m + 1][p] = true;
                    for (Way w : ways) {
                        if (w.from == p && w.fits(skill) && open(w, m, k)) {
                            at[m + w.minutes(skill)][w.to] = true;
                        }
                    }
                }
            }
        }
        return at;
    }

    int soonest(int skill, int from, int minute, int to, int k) {
        if (bad(skill, 4) || bad(from, 10) || bad(minute, 481) || bad(to, 10)) {
            return NONE;
        }
        boolean[][] at = reach(skill, from, minute, k);
        for (int m = minute; m <= 600; m++) {
            if (at[m][to]) {
                return m;
            }
        }
        return NONE;
    }

    List<Integer> waysOf(int skill, int from, int minute, int to, int k) {
        List<Integer> row = new ArrayList<>();
        int by = soonest(skill, from, minute, to, k);
        if (by == NONE) {
            return row;
        }
        boolean[][] good = new boolean[700][10];
        for (int m = by; m >= 0; m--) {
            good[m][to] = true;
            for (Way w : ways) {
                good[m][w.from] |= good[m + 1][w.from];
                if (w.fits(skill) && open(w, m, k)) {
                    good[m][w.from] |= good[m + w.minutes(skill)][w.to];
                }
            }
        }
        int p = from;
        int m = minute;
        while (p != to) {
            Way taken = null;
            for (Way w : ways) {
                int begun = m;
                while (begun < 480 && !open(w, begun, k)) {
                    begun++;
                }
                if (taken == null && w.from == p && w.fits(skill) && begun < 480
                    && good[begun + w.minutes(skill)][w.to]) {
                    taken = w;
                    m = begun + w.minutes(skill);
                }
            }
            row.add(taken.number);
            p = taken.to;
        }
        return row;
    }

    int last(int skill, int from, int k) {
        if (bad(skill, 4) || bad(from, 10)) {
            return NONE;
        }
        boolean[][] good = new boolean[700][10];
        for (int m = 600; m >= 0; m--) {
            good[m][home] = true;
            for (Way w : ways) {
                good[m][w.from] |= good[m + 1][w.from];
                if (w.fits(skill) && open(w, m, k)) {
                    good[m][w.from] |= good[m + w.minutes(skill)][w.to];
                }
            }
        }
        for (int m = 480; m >= 0; m--) {
            if (good[m][from]) {
                return m;
            }
        }
        return NONE;
    }

    static boolean bad(int n, int bound) {
        return n < 0 || n >= bound;
    }

    // ---- skiers: a graph of (MINUTE, P), its edges by who is where in between

    private boolean[][] stand;
    private boolean[][] ride;

    /** Fills stand and ride for the MINUTES 0 .. 540. */
    void whereabouts(int skier, int k) {
        int skill = skills.get(skier);
        Map<Integer, Set<Integer>> got = new HashMap<>();
        for (Told t : passes) {
            if (t.what[0] == skier && t.counts(k)) {
                got.computeIfAbsent(t.what[2], x -> new HashSet<>()).add(t.what[1]);
            }
        }
        List<int[]> edges = new ArrayList<>();
        for (int m = 0; m <= 560; m++) {
            for (int p = 0; p < 10; p++) {
                addEdge(edges, got, m, p, m + 1, p, null);
            }
            for (Way w : ways) {
                boolean passed = got.getOrDefault(m, Set.of()).contains(w.number);
                if (w.fits(skill) && m < 480 && (passed || !w.gate && open(w, m, k))) {
                    addEdge(edges, got, m, w.from, m + w.minutes(skill), w.to, w);
                }
            }
        }
        boolean[] fore = closure(edges, home, true);
        boolean[] back = closure(edges, -1, false);
        stand = new boolean[541][10];
        ride = new boolean[541][17];
        for (int m = 0; m <= 540; m++) {
            for (int p = 0; p < 10; p++) {
                stand[m][p] = fore[m * 10 + p] && back[m * 10 + p];
            }
        }
        for (int[] e : edges) {
            if (e[2] != NONE && fore[e[0]] && back[e[1]]) {
                for (int m = e[0] / 10; m < e[1] / 10 && m <= 540; m++) {
                    ride[m][e[2]] = true;
                }
            }
        }
    }

    /** An edge over MINUTES stands only if every PASS in them is the WAY begun. */
    private static void addEdge(List<int[]> edges, Map<Integer, Set<Integer>> got, int m, int p, int then, int to, Way w) {
        for (int i = m; i < then; i++) {
            for (int lift : got.getOrDefault(i, Set.of())) {
                if (i != m || w == null || w.number != lift) {
                    return;
                }
            }
        }
        edges.add(new int[] {m * 10 + p, then * 10 + to, w == null ? NONE : w.number});
    }

    private static boolean[] closure(List<int[]> edges, int home, boolean onward) {
        boolean[] at = new boolean[6400];
        if (onward) {
            at[home] = true;
            for (int[] e : edges) {
                at[e[1]] |= at[e[0]];
            }
            return at;
        }
        for (int i = 5600; i < 6400; i++) {
            at[i] = true;
        }
        for (int n = edges.size() - 1; n >= 0; n--) {
            at[edges.get(n)[0]] |= at[edges.get(n)[1]];
        }
        return at;
    }

    boolean noSuch(int skier, int minute) {
        return bad(skier, skills.size()) || bad(minute, 541);
    }

    int can(int skier, int p, int minute, int k) {
        if (noSuch(skier, minute) || bad(p, 10)) {
            return NONE;
        }
        whereabouts(skier, k);
        return stand[minute][p] ? 1 : 0;
    }

    int canOn(int skier, int way, int minute, int k) {
        if (noSuch(skier, minute) || wayOf(way) == null) {
            return NONE;
        }
        whereabouts(skier, k);
        return ride[minute][way] ? 1 : 0;
    }

    int places(int skier, int minute, int k) {
        if (noSuch(skier, minute)) {
            return NONE;
        }
        whereabouts(skier, k);
        int many = 0;
        for (boolean one : stand[minute]) {
            many += one ? 1 : 0;
        }
        for (boolean one : ride[minute]) {
            many += one ? 1 : 0;
        }
        return many;
    }

    int meet(int a, int b, int p, int from, int k) {
        if (a == b || noSuch(a, from) || noSuch(b, from) || bad(p, 10)) {
            return NONE;
        }
        whereabouts(a, k);
        boolean[][] one = stand;
        whereabouts(b, k);
        for (int m = from; m <= 540; m++) {
            if (one[m][p] && stand[m][p]) {
                return m;
            }
        }
        return NONE;
    }

    // ---- crowds: each one alone

    int day(int k) {
        Map<Integer, Integer> place = new HashMap<>();
        Map<Integer, Way> queue = new HashMap<>();
        Map<Integer, int[]> under = new HashMap<>();
        int people = 0;
        int[] snow = new int[17];
        int[] next = new int[10];
        for (Way w : ways) {
            snow[w.number] = w.snow * 10;
        }
        java.util.Arrays.fill(taken, 0);
        java.util.Arrays.fill(longest, 0);
        for (int m = 0; m < 480; m++) {
            for (Way w : ways) {
                if (!w.lift) {
                    snow[w.number] += m % 60 == 0 ? 10 * fresh(m / 60, k) : 0;
                    snow[w.number] += wind(m / 60, k) < 30 ? makers[w.number - 10] : 0;
                }
            }
            for (int[] a : arrivals) {
                for (int i = 0; a[0] == m && i < a[1]; i++) {
                    place.put(people++, home);
                }
            }
            for (int who : new ArrayList<>(under.keySet())) {
                if (under.get(who)[0] == m) {
                    place.put(who, under.remove(who)[1]);
                }
            }
            for (int who : new ArrayList<>(place.keySet())) {
                int p = place.get(who);
                Way w = nextTurn(p, next, snow, m, k);
                if (w == null) {
                    continue;
                }
                place.remove(who);
                if (w.lift) {
                    queue.put(who, w);
                } else {
                    snow[w.number]--;
                    taken[w.number]++;
                    under.put(who, new int[] {m + w.takes, w.to});
                }
            }
            for (Way w : ways) {
                if (!w.lift) {
                    continue;
                }
                int seats = open(w, m, k) ? w.seats : 0;
                int left = 0;
                for (int who : new ArrayList<>(queue.keySet())) {
                    if (queue.get(who) != w) {
                        continue;
                    }
                    if (seats > 0) {
                        seats--;
                        taken[w.number]++;
                        queue.remove(who);
                        under.put(who, new int[] {m + w.takes, w.to});
                    } else if (m + 1 == w.off) {
                        queue.remove(who);
                        place.put(who, w.from);
                    } else {
                        left++;
                    }
                }
                longest[w.number] = Math.max(longest[w.number], left);
            }
            undecidedThen[m] = new int[10];
            queuedThen[m] = new int[10];
            for (int p : place.values()) {
                undecidedThen[m][p]++;
            }
            for (Way w : queue.values()) {
                queuedThen[m][w.from]++;
            }
            for (int run = 0; run < 7; run++) {
                snowThen[m][run] = snow[10 + run];
            }
        }
        ran = true;
        return undecidedThen[479][home] + queuedThen[479][home];
    }

    private Way nextTurn(int p, int[] next, int[] snow, int m, int k) {
        List<Integer> row = turns.getOrDefault(p, List.of());
        for (int n = 0; n < row.size(); n++) {
            int turn = (next[p] + n) % row.size();
            Way w = wayOf(row.get(turn));
            if (!shut(w, m, k) && (w.lift ? m < w.off : snow[w.number] >= 10)) {
                next[p] = (turn + 1) % row.size();
                return w;
            }
        }
        return null;
    }

    // ---- sweeps: MINUTE by MINUTE, all that patrollers can do

    int sweep(int p, int patrollers) {
        if (bad(p, 10) || patrollers < 1 || patrollers > 2) {
            return NONE;
        }
        List<Way> runs = new ArrayList<>();
        for (Way w : ways) {
            if (!w.lift) {
                runs.add(w);
            }
        }
        int all = (1 << runs.size()) - 1;
        // A patroller: P * 1000 when he stands; else the P where he comes to, the RUN that he
        // sweeps (or 9), the minutes left.
        Set<Long> now = new HashSet<>();
        now.add(state(0, p * 1000, patrollers == 2 ? p * 1000 : -1));
        Set<Long> seen = new HashSet<>(now);
        for (int minute = 0; !now.isEmpty(); minute++) {
            Set<Long> then = new HashSet<>();
            for (long s : now) {
                int swept = (int) (s & 127);
                if (swept == all) {
                    return minute;
                }
                for (int a : choices((int) (s >> 7 & 65535), swept, runs)) {
                    for (int b : choices((int) (s >> 23 & 65535), swept, runs)) {
                        long to = step(swept, a, b);
                        if (seen.add(to)) {
                            then.add(to);
                        }
                    }
                }
            }
            now = then;
        }
        return NONE;
    }

    private static long state(int swept, int a, int b) {
        return swept | (a & 65535L) << 7 | (b & 65535L) << 23;
    }

    private List<Integer> choices(int who, int swept, List<Way> runs) {
        List<Integer> all = new ArrayList<>();
        all.add(who);
        if (who == 65535 || who % 1000 != 0) {
            return all;
        }
        int p = who / 1000;
        for (Way w : ways) {
            if (w.from == p) {
                all.add(w.to * 1000 + 900 + w.takes);
                boolean may = !w.lift;
                for (int i = 0; i < runs.size(); i++) {
                    may &= runs.get(i).to != p || (swept >> i & 1) != 0;
                }
                if (may) {
                    all.add(w.to * 1000 + (w.number - 10) * 100 + 100 + w.takes);
                }
            }
        }
        return all;
    }

    private static long step(int swept, int a, int b) {
        int[] two = {a, b};
        for (int i = 0; i < 2; i++) {
            if (two[i] != 65535 && two[i] % 1000 != 0) {
                two[i]--;
                if (two[i] % 100 == 0) {
                    int run = two[i] % 1000 / 100 - 1;
                    swept |= run < 7 ? 1 << run : 0;
                    two[i] -= two[i] % 1000;
                }
            }
        }
        return state(swept, two[0], two[1]);
    }
}
