/** The boundaries of SWEEPS and of about: a test for each sentence that names one. */
public final class SweepBoundsTest {
    private static final int NONE = SkiMountain.NONE;
    private static final int MIN = Integer.MIN_VALUE;
    private static final int MAX = Integer.MAX_VALUE;

    private SweepBoundsTest() {
    }

    public static void main(String[] args) {
        oneOrTwo();
        placesToBeginAt();
        noRunsAtAll();
        oneRun();
        liftsAtAnyMinute();
        fullMinutes();
        minutesBetween();
        nobodyComesThere();
        begunWhenAllAboveAreSwept();
        whicheverRunsAreAbove();
        ringsOfRuns();
        runsEndingElsewhere();
        overRunsThatAreNotSwept();
        twoShareTheRuns();
        twoAreNoSlower();
        leastOfAllOrders();
        leastByOneMinute();
        overAnyPlace();
        neitherLawNorWeather();
        sevenRuns();
        anotherMountain();
        nothingIsAboveAnyMore();
        aboutAsksForTen();
        aboutAtItsMost();
        aboutBehindWhatIsTakenBack();
        calls512();
        Check.close();
    }

    private static void due(String call, long got, long want) {
        Check.due(call, got, want);
    }

    private static String run(String name, String ends, int takes) {
        return "run " + name + " " + ends + " grade 3 takes " + takes + " snow 0;";
    }

    private static String lift(String name, String ends, int takes) {
        return "lift " + name + " " + ends + " takes " + takes + " seats 1 from 479 to 480 gate;";
    }

    // ---- 29: sweep

    /** "by so many patrollers (1 or 2)"; "NONE if .. one can't be." */
    private static void oneOrTwo() {
        SkiMountain x = Check.made(run("a", "p0 p1", 10));
        due("one", x.sweep(0, 1), 10);
        due("two", x.sweep(0, 2), 10);
        for (int many : new int[] {-1, 0, 3, 4, MIN, MAX}) {
            due("by " + many, x.sweep(0, many), NONE);
        }
        SkiMountain none = new SkiMountain();
        due("none, of no RUNS", none.sweep(0, 0), NONE);
        due("three, of no RUNS", none.sweep(0, 3), NONE);
    }

    /** "from a P": 0 .. 9. */
    private static void placesToBeginAt() {
        SkiMountain x = Check.made(run("a", "p9 p0", 10) + lift("l", "p0 p9", 30));
        due("p9", x.sweep(9, 1), 10);
        due("p0", x.sweep(0, 1), 40);
        due("p1", x.sweep(1, 1), NONE);
        for (int p : new int[] {-1, 10, 11, MIN, MAX}) {
            due("P " + p, x.sweep(p, 1), NONE);
            due("P " + p + " by two", x.sweep(p, 2), NONE);
            due("P " + p + " of no RUNS", new SkiMountain().sweep(p, 1), NONE);
        }
    }

    /** Where there are no RUNS, all are SWEPT at once, wherever they stand. */
    private static void noRunsAtAll() {
        SkiMountain x = Check.made(lift("l", "p0 p9", 30));
        for (int p = 0; p <= 9; p++) {
            due("from " + p, x.sweep(p, 1), 0);
            due("from " + p + " by two", x.sweep(p, 2), 0);
        }
    }

    /** "one goes down it in its minutes": the least and the most. */
    private static void oneRun() {
        for (int takes : new int[] {1, 60}) {
            SkiMountain x = Check.made(run("a", "p0 p1", takes));
            due("takes " + takes, x.sweep(0, 1), takes);
            due("by two", x.sweep(0, 2), takes);
            due("from below", x.sweep(1, 1), NONE);
        }
    }

    /** "LIFTS and RUNS bear them at any MINUTE": on duty or not, with a gate or not. */
    private static void liftsAtAnyMinute() {
        SkiMountain x = Check.made(run("a", "p1 p0", 5) + "lift l p0 p1 takes 7 seats 1 from 200 to 201 gate;");
        due("at once", x.sweep(0, 1), 12);
        x.turn(0);
        x.arrive(200, 500);
        x.day(0);
        due("whoever is queued", x.sweep(0, 1), 12);
    }

    /** "in their full minutes": no grade makes them faster. */
    private static void fullMinutes() {
        for (int grade = 0; grade <= 3; grade++) {
            SkiMountain x = Check.made("run a p0 p1 grade " + grade + " takes 60 snow 0;");
            due("grade " + grade, x.sweep(0, 1), 60);
        }
    }

    /** "Between they go by the least minutes by WAYS." */
    private static void minutesBetween() {
        String two = run("a", "p0 p1", 10) + run("b", "p2 p3", 10);
        due("no way between", Check.made(two).sweep(0, 1), NONE);
        due("by a LIFT", Check.made(two + lift("l", "p1 p2", 9)).sweep(0, 1), 29);
        due("by the faster", Check.made(two + lift("l", "p1 p2", 9) + lift("m", "p1 p2", 8)).sweep(0, 1), 28);
        due("by two LIFTS", Check.made(two + lift("l", "p1 p2", 9) + lift("m", "p1 p4", 4) + lift("n", "p4 p2", 4))
            .sweep(0, 1), 28);
        due("not by slower two", Check.made(two + lift("l", "p1 p2", 9) + lift("m", "p1 p4", 5) + lift("n", "p4 p2", 4))
            .sweep(0, 1), 29);
        due("from where it begins", Check.made(two + lift("l", "p1 p2", 9)).sweep(2, 1), NONE);
        due("back up", Check.made(run("a", "p1 p0", 10) + run("b", "p1 p0", 20) + lift("l", "p0 p1", 5)).sweep(0, 1), 40);
    }

    /** "NONE if it can't be": there is no way up, or for one alone. */
    private static void nobodyComesThere() {
        SkiMountain x = Check.made(run("a", "p0 p1", 10) + run("b", "p0 p2", 20));
        due("one alone", x.sweep(0, 1), NONE);
        due("two", x.sweep(0, 2), 20);
        due("two from below", x.sweep(1, 2), NONE);
        SkiMountain y = Check.made(run("a", "p0 p1", 10) + run("b", "p0 p2", 20) + run("c", "p0 p3", 30));
        due("three RUNS by two", y.sweep(0, 2), NONE);
    }

    /** "begun when all RUNS that end at the P where it begins are SWEPT": just then. */
    private static void begunWhenAllAboveAreSwept() {
        String text = run("a", "p0 p2", 30) + run("b", "p1 p2", 10) + run("c", "p2 p3", 5) + lift("l", "p0 p1", 1)
            + lift("m", "p2 p0", 3);
        SkiMountain x = Check.made(text);
        due("by two", x.sweep(0, 2), 35);
        due("by one", x.sweep(0, 1), 30 + 3 + 1 + 10 + 5);
        SkiMountain y = Check.made(run("a", "p0 p2", 30) + run("c", "p2 p3", 5) + lift("l", "p0 p2", 1));
        due("who is there ahead waits", y.sweep(0, 2), 35);
        due("from p2: a is never SWEPT", y.sweep(2, 2), NONE);
        SkiMountain z = Check.made(run("a", "p0 p2", 30) + run("c", "p2 p3", 5) + lift("l", "p2 p0", 1));
        due("from p2 up first", z.sweep(2, 1), 36);
    }

    /** The same for each of seven RUNS, told in any order: six end where the seventh begins. */
    private static void whicheverRunsAreAbove() {
        for (int below = 0; below < 7; below++) {
            StringBuilder b = new StringBuilder();
            int minutes = 0;
            for (int n = 0; n < 7; n++) {
                int takes = 2 + n;
                minutes += takes;
                b.append(run("r" + (char) ('a' + n), n == below ? "p1 p2" : "p0 p1", takes));
            }
            b.append(lift("l", "p1 p0", 1)).append(lift("m", "p0 p1", 1));
            SkiMountain x = Check.made(b.toString());
            due("one, " + below + " last", x.sweep(0, 1), minutes + 5);
            due("from p1", x.sweep(1, 1), minutes + 6);
        }
        for (int slow = 0; slow < 4; slow++) {
            StringBuilder b = new StringBuilder();
            for (int n = 0; n < 4; n++) {
                b.append(run("r" + (char) ('a' + n), n == 3 ? "p1 p2" : "p0 p1", n == slow ? 50 : 5));
            }
            b.append(lift("l", "p1 p0", 1));
            SkiMountain x = Check.made(b.toString());
            due("two, the slow one is " + slow, x.sweep(0, 2), slow == 3 ? 5 + 1 + 5 + 50 : 50 + 5);
        }
    }

    /** RUNS that wait for one another are never SWEPT. */
    private static void ringsOfRuns() {
        SkiMountain two = Check.made(run("a", "p0 p1", 1) + run("b", "p1 p0", 1));
        SkiMountain three = Check.made(run("a", "p0 p1", 1) + run("b", "p1 p2", 1) + run("c", "p2 p0", 1));
        SkiMountain below = Check.made(run("a", "p0 p1", 1) + run("b", "p1 p2", 1) + run("c", "p2 p1", 1));
        for (int many = 1; many <= 2; many++) {
            for (int p = 0; p <= 9; p++) {
                due("two from " + p, two.sweep(p, many), NONE);
                due("three from " + p, three.sweep(p, many), NONE);
                due("below from " + p, below.sweep(p, many), NONE);
            }
        }
    }

    /** LIFTS that end where a RUN begins bar nothing; nor do RUNS that end elsewhere. */
    private static void runsEndingElsewhere() {
        SkiMountain x = Check.made(run("a", "p0 p1", 4) + lift("l", "p1 p0", 2) + run("b", "p0 p2", 3));
        due("b last", x.sweep(0, 1), 4 + 2 + 3);
        SkiMountain y = Check.made(run("a", "p0 p1", 40) + run("b", "p2 p1", 3) + lift("l", "p0 p2", 2));
        due("side by side", y.sweep(0, 2), 40);
    }

    /** "RUNS bear them at any MINUTE": those that are not SWEPT yet, too. */
    private static void overRunsThatAreNotSwept() {
        String text = run("a", "p0 p1", 2) + run("b", "p1 p2", 3) + run("c", "p3 p1", 4) + lift("l", "p2 p3", 1);
        due("down b to come up to c", Check.made(text).sweep(0, 1), 2 + 3 + 1 + 4 + 3);
    }

    /** "1 or 2 patrollers": two share the RUNS in the least time. */
    private static void twoShareTheRuns() {
        String fan = run("a", "p0 p1", 10) + run("b", "p0 p1", 9) + run("c", "p0 p1", 8) + run("d", "p0 p1", 7)
            + lift("l", "p1 p0", 1);
        SkiMountain x = Check.made(fan);
        due("one", x.sweep(0, 1), 10 + 9 + 8 + 7 + 3);
        due("two: 10 and 7, 9 and 8", x.sweep(0, 2), 18);
        due("from below", x.sweep(1, 2), 19);
        SkiMountain y = Check.made(run("a", "p0 p1", 60) + run("b", "p0 p1", 9) + run("c", "p0 p1", 8)
            + lift("l", "p1 p0", 1));
        due("one has but the longest", y.sweep(0, 2), 60);
    }

    /** Two are as soon as one where RUNS stand in one row. */
    private static void twoAreNoSlower() {
        SkiMountain x = Check.made(run("a", "p0 p1", 10) + run("b", "p1 p2", 9) + run("c", "p2 p3", 8));
        due("one", x.sweep(0, 1), 27);
        due("two", x.sweep(0, 2), 27);
    }

    /** "SWEEP is the least number of minutes": the RUNS told first need not be SWEPT first. */
    private static void leastOfAllOrders() {
        StringBuilder b = new StringBuilder();
        for (int n = 0; n < 7; n++) {
            b.append(run("r" + (char) ('a' + n), n < 3 ? "p1 p9" : "p2 p9", 1));
        }
        b.append(lift("la", "p9 p1", 3)).append(lift("lb", "p9 p2", 1));
        // LIFTS that bear nobody where he has to be
        for (int n = 2; n < 6; n++) {
            b.append(lift("l" + (char) ('a' + n), "p9 p" + (n + 1), 30));
        }
        SkiMountain x = Check.made(b.toString());
        // the first RUN needs no LIFT: seven minutes down, three times 3 and three times 1 up
        due("from p2", x.sweep(2, 1), 7 + 3 * 3 + 3);
        due("from p1", x.sweep(1, 1), 7 + 2 * 3 + 4);
        due("from p9", x.sweep(9, 1), 7 + 3 * 3 + 4);
        // both begin at once; three times 4 and two times 2 are left, 8 for each
        due("from p2 by two", x.sweep(2, 2), 1 + 8);
    }

    /** One MINUTE less is less: d can be SWEPT on the way, but is better SWEPT at the end. */
    private static void leastByOneMinute() {
        SkiMountain x = Check.made(run("d", "p4 p5", 5) + run("c", "p3 p1", 5) + run("a", "p1 p0", 5) + run("b", "p0 p2", 5)
            + lift("l", "p1 p4", 1) + lift("m", "p5 p1", 1) + lift("n", "p2 p4", 1));
        // c, up to d, back to a, b: 22 minutes; c, a, b, up to d: 21
        due("one", x.sweep(3, 1), 21);
        SkiMountain y = Check.made(run("d", "p4 p5", 5) + run("c", "p3 p1", 5) + run("a", "p1 p0", 5) + run("b", "p0 p2", 5)
            + lift("l", "p1 p4", 1) + lift("m", "p5 p1", 1) + lift("n", "p2 p4", 3));
        due("on the way, if it is farther at the end", y.sweep(3, 1), 22);
    }

    /** "by the least minutes by WAYS": over any P, p0 and p9 as well. */
    private static void overAnyPlace() {
        for (int over = 0; over <= 9; over++) {
            int from = (over + 3) % 10;
            int to = (over + 6) % 10;
            SkiMountain x = Check.made(run("a", "p" + to + " p" + from, 5) + lift("l", "p" + from + " p" + over, 7)
                + lift("m", "p" + over + " p" + to, 8));
            due("over " + over, x.sweep(from, 1), 20);
            due("from " + over, x.sweep(over, 1), 13);
            due("over " + over + " by two", x.sweep(from, 2), 20);
        }
    }

    /** A LAW, WEATHER and the TIME change nothing of it. */
    private static void neitherLawNorWeather() {
        SkiMountain x = Check.made(run("a", "p1 p0", 10) + lift("l", "p0 p1", 2));
        due("before", x.sweep(0, 1), 12);
        due("law", Check.law(x, "shut run if 1=1;shut lift if 1=1;"), 2);
        x.weather(0, 99, 40);
        x.later(1000);
        due("behind", x.sweep(0, 1), 12);
        due("by two", x.sweep(0, 2), 12);
    }

    /** 7 RUNS, 6 LIFTS. */
    private static void sevenRuns() {
        StringBuilder b = new StringBuilder();
        for (int n = 0; n < 7; n++) {
            b.append(run("r" + (char) ('a' + n), "p" + n + " p" + (n + 1), 60));
        }
        due("in one row", Check.made(b.toString()).sweep(0, 1), 420);
        due("in one row by two", Check.made(b.toString()).sweep(0, 2), 420);
        StringBuilder c = new StringBuilder();
        for (int n = 0; n < 7; n++) {
            c.append(run("r" + (char) ('a' + n), "p0 p1", 60));
        }
        for (int n = 0; n < 6; n++) {
            c.append(lift("l" + (char) ('a' + n), "p1 p0", 30 - n));
        }
        SkiMountain x = Check.made(c.toString());
        due("side by side", x.sweep(0, 1), 7 * 60 + 6 * 25);
        due("by two: four and three", x.sweep(0, 2), 4 * 60 + 3 * 25);
        due("from below", x.sweep(1, 1), 7 * 85);
    }

    /** Asked again, it is the same; of another MOUNTAIN it is another. */
    private static void anotherMountain() {
        SkiMountain x = Check.made(run("a", "p0 p1", 10));
        due("10", x.sweep(0, 1), 10);
        due("again", x.sweep(0, 1), 10);
        due("none", x.sweep(1, 1), NONE);
        due("none again", x.sweep(1, 1), NONE);
        due("a FAULT", Check.mountain(x, run("a", "p0 p1", 20) + "$"), NONE);
        due("the same still", x.sweep(0, 1), 10);
        due("another", Check.mountain(x, run("a", "p1 p0", 20)), 1);
        due("none now", x.sweep(0, 1), NONE);
        due("20 now", x.sweep(1, 1), 20);
        due("no RUNS", x.mountain(), 0);
        due("0 now", x.sweep(0, 1) + x.sweep(1, 2), 0);
    }

    /** What was above in the MOUNTAIN ahead is not above in this one. */
    private static void nothingIsAboveAnyMore() {
        SkiMountain x = Check.made(run("a", "p0 p1", 1) + run("b", "p1 p0", 1));
        due("a ring", x.sweep(0, 1), NONE);
        due("no ring", Check.mountain(x, run("a", "p0 p1", 10) + run("b", "p0 p1", 20) + lift("l", "p1 p0", 3)), 3);
        due("one", x.sweep(0, 1), 33);
        due("two", x.sweep(0, 2), 20);
    }

    // ---- 30: about

    /** "NONE for another what." */
    private static void aboutAsksForTen() {
        SkiMountain x = new SkiMountain();
        for (int what = 0; what <= 9; what++) {
            due("about " + what, x.about(what), 0);
        }
        for (int what : new int[] {-1, -2, 10, 11, 100, MIN, MAX}) {
            due("about " + what, x.about(what), NONE);
        }
    }

    /** Each number at its most, within 512 calls. */
    private static void aboutAtItsMost() {
        StringBuilder b = new StringBuilder();
        for (int n = 0; n < 6; n++) {
            b.append(lift("l" + (char) ('a' + n), "p0 p1", 30));
        }
        for (int n = 0; n < 7; n++) {
            b.append(run("r" + (char) ('a' + n), "p1 p0", 60));
        }
        SkiMountain x = Check.made(b.append("home p9;").toString());
        for (int n = 0; n < 60; n++) {
            x.weather(n % 8, 99, 40);
        }
        for (int n = 0; n < 100; n++) {
            x.skier(3);
            x.pass(0, 0, 479);
            x.later(1000);
        }
        for (int n = 0; n < 20; n++) {
            x.arrive(479, 500);
        }
        Check.tape(x, new byte[400]);
        int[] want = {6, 7, 14, 60, 8, 100, 20, 100000, 400, 9};
        for (int what = 0; what < want.length; what++) {
            due("about " + what, x.about(what), want[what]);
        }
    }

    /** What is UNTOLD is counted still: TELLINGS and PASSES are numbers that were told. */
    private static void aboutBehindWhatIsTakenBack() {
        SkiMountain x = Check.made(lift("a", "p0 p1", 5));
        x.skier(0);
        x.weather(0, 1, 1);
        x.pass(0, 0, 5);
        x.untell(0);
        x.unpass(0);
        due("TELLINGS", x.about(3), 1);
        due("PASSES", x.about(5), 1);
        due("another MOUNTAIN", x.mountain(), 0);
        due("TELLINGS stay", x.about(3), 1);
        due("PASSES do not", x.about(5), 0);
    }

    /** "An object is used for at most 512 calls": the 512th answers as the first. */
    private static void calls512() {
        SkiMountain x = new SkiMountain();
        x.skier(0);
        for (int n = 0; n < 510; n++) {
            due("call " + (n + 2), n % 3 == 0 ? x.mountain() : n % 3 == 1 ? x.law() : x.day(0), 0);
        }
        due("the 512th", x.places(0, 540, 0), 1);
    }
}
