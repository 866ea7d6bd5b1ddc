import java.util.ArrayList;
import java.util.List;
import java.util.Random;

/** Runs of calls by chance (always the same ones), each answer against that of Plain. */
public final class RandomRunsTest {
    private static final int RUNS = 400;
    private static final String[] WORDS = {"lift", "run", "home", "takes", "seats", "from", "to", "gate",
        "grade", "snow", "shut", "if", "or", "and", "not", "hour", "wind", "fresh", "a", "p", "abcdefgh",
        "abcdefghi", "p0", "p1", "p9", "p12", "p1x", "0", "1", "12", "480", "9999", "12345", "7a", ";", "(",
        ")", "<", ">", "=", "+", "-", "$", "A", "\t", "\u00e9", "\0"};

    private final Random chance;
    private final SkiMountain x = new SkiMountain();
    private final Plain y = new Plain();
    private final int run;
    private int calls;
    private int maxTakes;

    private RandomRunsTest(int run) {
        this.run = run;
        chance = new Random(run);
        maxTakes = run % 3 == 0 ? 4 : 30;
    }

    public static void main(String[] args) {
        int runs = args.length > 0 ? Integer.parseInt(args[0]) : RUNS;
        for (int run = 0; run < runs && Check.wrongOnes() == 0; run++) {
            new RandomRunsTest(run).go();
        }
        Check.close();
    }

    private void go() {
        tellMountain();
        while (calls < 400) {
            one();
        }
    }

    private void due(String call, long got, long want) {
        calls++;
        Check.due("run " + run + ", " + call, got, want);
    }

    private int upTo(int bound) {
        return chance.nextInt(bound);
    }

    private boolean oneIn(int n) {
        return chance.nextInt(n) == 0;
    }

    /** A number from 0 on below a bound, now and then one beside it. */
    private int near(int bound) {
        if (oneIn(12)) {
            int[] beside = {-1, bound, bound + 1, Integer.MIN_VALUE, Integer.MAX_VALUE};
            return beside[upTo(beside.length)];
        }
        return upTo(Math.max(1, bound));
    }

    private int k() {
        return oneIn(20) ? (oneIn(2) ? Integer.MIN_VALUE : Integer.MAX_VALUE) : upTo(y.time + 2) - (oneIn(9) ? 1 : 0);
    }

    private int wayNumber() {
        if (y.ways.isEmpty() || oneIn(10)) {
            return near(18);
        }
        return y.ways.get(upTo(y.ways.size())).number;
    }

    // ---- texts

    private String blank() {
        return oneIn(6) ? "\n " : " ";
    }

    private String mountainText() {
        StringBuilder b = new StringBuilder();
        int places = 2 + upTo(oneIn(4) ? 9 : 3);
        int lifts = upTo(oneIn(8) ? 8 : 5);
        int runs = upTo(oneIn(8) ? 9 : 5);
        List<String> lines = new ArrayList<>();
        for (int i = 0; i < lifts; i++) {
            int from = oneIn(3) ? upTo(480) : 0;
            int to = oneIn(3) ? from + 1 + upTo(480 - from) : 480 - upTo(20);
            lines.add("lift " + name("l", i) + ends(places) + " takes " + (1 + upTo(Math.min(maxTakes, 30))) + " seats "
                + (1 + upTo(oneIn(2) ? 4 : 99)) + " from " + Math.min(from, 479) + " to " + Math.max(from + 1, to)
                + (oneIn(3) ? " gate" : "") + blank() + ";");
        }
        for (int i = 0; i < runs; i++) {
            lines.add("run " + name("r", i) + ends(places) + " grade " + upTo(4) + " takes " + (1 + upTo(maxTakes * 2))
                + " snow " + (oneIn(2) ? upTo(12) : upTo(301)) + ";");
        }
        if (!oneIn(3)) {
            lines.add("home p" + upTo(places) + ";");
        }
        java.util.Collections.shuffle(lines, chance);
        for (String line : lines) {
            b.append(line).append(oneIn(2) ? blank() : "");
        }
        return b.toString();
    }

    private String name(String kind, int i) {
        return oneIn(40) ? "same" : kind + (char) ('a' + i);
    }

    private String ends(int places) {
        int from = upTo(places);
        int to = (from + 1 + upTo(places - 1)) % places;
        return " p" + from + blank() + "p" + (oneIn(80) ? from : to);
    }

    private String lawText() {
        StringBuilder b = new StringBuilder();
        boolean liftFirst = oneIn(2);
        for (int i = 0; i < 2; i++) {
            boolean lift = liftFirst == (i == 0);
            if (!oneIn(4)) {
                b.append("shut ").append(lift ? "lift" : "run").append(" if ");
                either(b, lift, 0);
                b.append(";");
            }
        }
        return b.toString();
    }

    private void either(StringBuilder b, boolean lift, int depth) {
        int many = 1 + (oneIn(3) ? 1 : 0);
        for (int i = 0; i < many; i++) {
            b.append(i == 0 ? "" : " or ");
            int ands = 1 + (oneIn(3) ? 1 : 0);
            for (int j = 0; j < ands; j++) {
                b.append(j == 0 ? "" : " and ");
                one(b, lift, depth);
            }
        }
    }

    private void one(StringBuilder b, boolean lift, int depth) {
        if (oneIn(5)) {
            b.append("not ");
            one(b, lift, depth + 1);
        } else if (oneIn(4)) {
            b.append("(");
            either(b, lift, depth + 1);
            b.append(")");
        } else {
            sum(b, lift);
            b.append("<>=".charAt(upTo(3)));
            sum(b, lift);
        }
    }

    private void sum(StringBuilder b, boolean lift) {
        String[] units = {"hour", "wind", "fresh", "takes", "snow", "grade"};
        int many = 1 + (oneIn(4) ? 1 : 0);
        for (int i = 0; i < many; i++) {
            b.append(i == 0 ? "" : oneIn(2) ? "+" : " - ");
            if (oneIn(2)) {
                b.append(oneIn(2) ? upTo(8) : upTo(60));
            } else {
                b.append(units[upTo(lift && !oneIn(40) ? 4 : 6)]);
            }
        }
        b.append(" ");
    }

    /** Puts something else into a text, or takes something out of it. */
    private String spoil(String text) {
        int at = upTo(text.length() + 1);
        int rest = Math.min(text.length(), at + upTo(4));
        String put = oneIn(3) ? "" : WORDS[upTo(WORDS.length)];
        String blank = oneIn(2) ? " " : "";
        if (oneIn(6)) {
            return text.substring(0, at);
        }
        return text.substring(0, at) + blank + put + blank + text.substring(rest);
    }

    private String soup() {
        StringBuilder b = new StringBuilder();
        for (int i = upTo(12); i > 0; i--) {
            b.append(WORDS[upTo(WORDS.length)]).append(oneIn(3) ? "" : " ");
        }
        return b.toString();
    }

    private void tape(String text) {
        x.end(0);
        boolean fits = Check.tape(x, Check.bytes(text));
        y.tape.setLength(0);
        if (fits) {
            y.tape.append(text);
        } else {
            x.end(0);
        }
        calls += text.length() / 20 + 1;
    }

    private void faults() {
        due("fault(0) of " + lastText, x.fault(0), y.faultKind);
        due("fault(1) of " + lastText, x.fault(1), y.faultPlace);
    }

    private String lastText = "";

    private void tellMountain() {
        lastText = oneIn(5) ? spoil(mountainText()) : oneIn(20) ? soup() : mountainText();
        tape(lastText);
        due("mountain() of " + lastText, x.mountain(), y.mountain());
        faults();
    }

    private void tellLaw() {
        lastText = oneIn(3) ? spoil(lawText()) : oneIn(10) ? soup() : lawText();
        tape(lastText);
        due("law() of " + lastText, x.law(), y.law());
        faults();
    }

    // ---- calls

    private void one() {
        int what = upTo(100);
        if (what < 2) {
            tellMountain();
        } else if (what < 6) {
            tellLaw();
        } else if (what < 25) {
            weather();
        } else if (what < 50) {
            ways();
        } else if (what < 75) {
            skiers();
        } else if (what < 97) {
            crowds();
        } else {
            rest();
        }
    }

    private void weather() {
        int hour = near(8);
        int k = k();
        switch (upTo(5)) {
            case 0: {
                int wind = near(100);
                int fresh = near(41);
                boolean can = !Plain.bad(hour, 8) && !Plain.bad(wind, 100) && !Plain.bad(fresh, 41)
                    && y.weather.size() < 60;
                int want = can ? y.weather.size() : -1;
                if (can) {
                    y.weather.add(new Plain.Told(y.time, hour, wind, fresh));
                }
                due("weather(" + hour + ", " + wind + ", " + fresh + ")", x.weather(hour, wind, fresh), want);
                break;
            }
            case 1: {
                int n = near(y.weather.size());
                due("untell(" + n + ")", x.untell(n) ? 1 : 0, takeBack(y.weather, n) ? 1 : 0);
                break;
            }
            case 2: {
                int by = oneIn(5) ? near(1001) : upTo(3);
                boolean can = !Plain.bad(by, 1001) && y.time + by <= 100000;
                y.time += can ? by : 0;
                due("later(" + by + ")", x.later(by), can ? y.time : -1);
                break;
            }
            default: {
                int which = near(2);
                int want = Plain.bad(hour, 8) || Plain.bad(which, 2) ? -1
                    : which == 0 ? y.wind(hour, k) : y.fresh(hour, k);
                due("air(" + hour + ", " + which + ", " + k + ")", x.air(hour, which, k), want);
            }
        }
    }

    private boolean takeBack(List<Plain.Told> all, int n) {
        if (Plain.bad(n, all.size()) || all.get(n).until != null) {
            return false;
        }
        all.get(n).until = y.time;
        return true;
    }

    private void ways() {
        int k = k();
        int skill = near(4);
        int from = oneIn(2) ? near(4) : near(10);
        int minute = oneIn(8) ? 479 + upTo(3) : near(481);
        int to = oneIn(2) ? near(4) : near(10);
        String told = skill + ", " + from + ", " + minute + ", " + to;
        switch (upTo(4)) {
            case 0: {
                int way = wayNumber();
                Plain.Way w = y.wayOf(way);
                int want = w == null || Plain.bad(minute, 481) ? -1 : y.open(w, minute, k) ? 1 : 0;
                due("open(" + way + ", " + minute + ", " + k + ")", x.open(way, minute, k), want);
                break;
            }
            case 1:
                due("soonest(" + told + ", " + k + ")", x.soonest(skill, from, minute, to, k),
                    y.soonest(skill, from, minute, to, k));
                break;
            case 2: {
                List<Integer> row = y.waysOf(skill, from, minute, to, k);
                int n = near(row.size() + 1);
                int want = Plain.bad(n, row.size()) ? -1 : row.get(n);
                due("way(" + told + ", " + n + ", " + k + ")", x.way(skill, from, minute, to, n, k), want);
                break;
            }
            default:
                due("last(" + skill + ", " + from + ", " + k + ")", x.last(skill, from, k), y.last(skill, from, k));
        }
    }

    private void skiers() {
        int k = k();
        int skier = near(Math.max(1, y.skills.size()));
        int minute = oneIn(3) ? upTo(60) : near(541);
        switch (upTo(9)) {
            case 0: {
                int skill = near(4);
                boolean can = !Plain.bad(skill, 4) && y.skills.size() < 8;
                if (can) {
                    y.skills.add(skill);
                }
                due("skier(" + skill + ")", x.skier(skill), can ? y.skills.size() - 1 : -1);
                break;
            }
            case 1:
            case 2:
                pass(skier);
                break;
            case 3: {
                int n = near(y.passes.size());
                due("unpass(" + n + ")", x.unpass(n) ? 1 : 0, takeBack(y.passes, n) ? 1 : 0);
                break;
            }
            case 4:
            case 5: {
                int p = oneIn(2) ? near(4) : near(10);
                due("can(" + skier + ", " + p + ", " + minute + ", " + k + ")", x.can(skier, p, minute, k),
                    y.can(skier, p, minute, k));
                break;
            }
            case 6: {
                int way = wayNumber();
                due("canOn(" + skier + ", " + way + ", " + minute + ", " + k + ")", x.canOn(skier, way, minute, k),
                    y.canOn(skier, way, minute, k));
                break;
            }
            case 7:
                due("places(" + skier + ", " + minute + ", " + k + ")", x.places(skier, minute, k),
                    y.places(skier, minute, k));
                break;
            default: {
                int other = near(Math.max(1, y.skills.size()));
                int p = near(4);
                due("meet(" + skier + ", " + other + ", " + p + ", " + minute + ", " + k + ")",
                    x.meet(skier, other, p, minute, k), y.meet(skier, other, p, minute, k));
            }
        }
    }

    /** Mostly a PASS that the SKIER can have had. */
    private void pass(int skier) {
        int lift = near(6);
        int minute = near(480);
        for (int n = 0; n < 40 && !oneIn(30); n++) {
            lift = upTo(6);
            minute = upTo(oneIn(2) ? 480 : 60);
            Plain.Way w = y.wayOf(lift);
            if (w != null && w.gate && y.can(skier, w.from, minute, y.time) == 1) {
                break;
            }
        }
        Plain.Way w = y.wayOf(lift);
        boolean can = !Plain.bad(skier, y.skills.size()) && lift < 6 && w != null && w.gate
            && !Plain.bad(minute, 480) && y.passes.size() < 100;
        int want = can ? y.passes.size() : -1;
        if (can) {
            y.passes.add(new Plain.Told(y.time, skier, lift, minute));
        }
        due("pass(" + skier + ", " + lift + ", " + minute + ")", x.pass(skier, lift, minute), want);
    }

    private void crowds() {
        int minute = near(480);
        int run = near(7);
        switch (upTo(9)) {
            case 0: {
                int at = oneIn(2) ? upTo(100) : minute;
                int many = 1 + (oneIn(5) ? near(500) : upTo(40));
                boolean can = !Plain.bad(at, 480) && many >= 1 && many <= 500 && y.arrivals.size() < 20;
                if (can) {
                    y.arrivals.add(new int[] {at, many});
                }
                due("arrive(" + at + ", " + many + ")", x.arrive(at, many), can ? y.arrivals.size() : -1);
                break;
            }
            case 1:
            case 2: {
                int way = wayNumber();
                Plain.Way w = y.wayOf(way);
                List<Integer> row = w == null ? null : y.turns.computeIfAbsent(w.from, p -> new ArrayList<>());
                boolean can = row != null && row.size() < 6;
                if (can) {
                    row.add(way);
                }
                due("turn(" + way + ")", x.turn(way), can ? row.size() : -1);
                break;
            }
            case 3: {
                int mm = near(21);
                boolean can = y.wayOf(10 + run) != null && run >= 0 && run < 7 && !Plain.bad(mm, 21);
                if (can) {
                    y.makers[run] = mm;
                }
                due("make(" + run + ", " + mm + ")", x.make(run, mm) ? 1 : 0, can ? 1 : 0);
                break;
            }
            case 4:
                wholeDay();
                break;
            case 5: {
                int p = oneIn(2) ? near(4) : near(10);
                int what = near(2);
                boolean can = y.ran && !Plain.bad(p, 10) && !Plain.bad(minute, 480) && !Plain.bad(what, 2);
                int want = !can ? -1 : what == 0 ? y.undecidedThen[minute][p] : y.queuedThen[minute][p];
                due("wait(" + p + ", " + minute + ", " + what + ")", x.wait(p, minute, what), want);
                break;
            }
            case 6: {
                boolean can = y.ran && !Plain.bad(run, 7) && y.wayOf(10 + run) != null && !Plain.bad(minute, 480);
                due("snow(" + run + ", " + minute + ")", x.snow(run, minute), can ? y.snowThen[minute][run] : -1);
                break;
            }
            default: {
                int way = wayNumber();
                int what = near(2);
                boolean can = y.ran && y.wayOf(way) != null && !Plain.bad(what, 2);
                int want = !can ? -1 : what == 0 ? y.taken[way] : y.longest[way];
                due("took(" + way + ", " + what + ")", x.took(way, what), want);
            }
        }
    }

    private void wholeDay() {
        if (oneIn(3)) {
            int k = k();
            due("day(" + k + ")", x.day(k), y.day(k));
            for (int p = 0; p < 5; p++) {
                int minute = upTo(480);
                due("wait(" + p + ", " + minute + ", 0)", x.wait(p, minute, 0), y.undecidedThen[minute][p]);
                due("wait(" + p + ", " + minute + ", 1)", x.wait(p, minute, 1), y.queuedThen[minute][p]);
            }
        }
    }

    private void rest() {
        if (oneIn(3)) {
            int runs = 0;
            int takes = 0;
            for (Plain.Way w : y.ways) {
                runs += w.lift ? 0 : 1;
                takes += w.takes;
            }
            int p = near(4);
            int patrollers = 1 + near(2);
            if (takes < 45 && runs < 5) {
                due("sweep(" + p + ", " + patrollers + ")", x.sweep(p, patrollers), y.sweep(p, patrollers));
            }
            return;
        }
        int lifts = 0;
        for (Plain.Way w : y.ways) {
            lifts += w.lift ? 1 : 0;
        }
        int[] want = {lifts, y.ways.size() - lifts, y.lines, y.weather.size(), y.skills.size(), y.passes.size(),
            y.arrivals.size(), y.time, y.tape.length(), y.home};
        int what = near(10);
        due("about(" + what + ")", x.about(what), Plain.bad(what, 10) ? -1 : want[what]);
    }
}
