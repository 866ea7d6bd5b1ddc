/** The boundaries of SKIERS and PASSES: a test for each sentence that names one. */
public final class SkierBoundsTest {
    private static final int NONE = SkiMountain.NONE;
    private static final int MIN = Integer.MIN_VALUE;
    private static final int MAX = Integer.MAX_VALUE;

    /** A LIFT with a gate and one without, from home up; a RUN down. */
    private static final String HILL = "lift g p0 p1 takes 10 seats 1 from 100 to 200 gate;"
        + "lift f p1 p2 takes 5 seats 1 from 0 to 480;run r p2 p0 grade 1 takes 20 snow 0;";

    private SkierBoundsTest() {
    }

    public static void main(String[] args) {
        skillsOfSkiers();
        eightSkiers();
        skiersStandAtHome();
        passOfWhom();
        passOnWhat();
        passWhen();
        hundredPasses();
        untoldPassesAreCounted();
        numbersOfPasses();
        unpassOnce();
        unpassNoneSuch();
        passToldAtK();
        passUntoldAtK();
        passOfOneTime();
        minutesOfCan();
        placesOfCan();
        skiersOfCan();
        waysOfCanOn();
        minutesOfCanOn();
        beginsAndEnds();
        nobodyWithoutAPass();
        onOtherLiftsOneMay();
        passAtItsMinuteAlone();
        openOrNotForPasses();
        openForOthers();
        passAtTheFirstMinute();
        passAtTheLastMinute();
        passAtTheLastMinuteBinds();
        eachPassIsABeginning();
        nextPassJustInTime();
        againstOneAnother();
        anyTwoLiftsAgainstOneAnother();
        twiceTheSame();
        passesOfOthers();
        runsByGrade();
        eachWayAlone();
        fasterByGrade();
        lastBeginnings();
        weatherAsKnown();
        placesInAll();
        placesNowhere();
        placesAsked();
        meetFromOneOn();
        meetNever();
        meetAsked();
        emptyMountain();
        fullOfSkiersAndPasses();
        Check.close();
    }

    private static void due(String call, long got, long want) {
        Check.due(call, got, want);
    }

    private static void due(String call, boolean got, boolean want) {
        Check.due(call, got, want);
    }

    private static SkiMountain hill() {
        SkiMountain x = Check.made(HILL);
        due("a SKIER", x.skier(1), 0);
        return x;
    }

    // ---- 15: skier

    /** "a SKILL 0 .. 3"; "NONE: no such SKILL". */
    private static void skillsOfSkiers() {
        for (int skill = 0; skill <= 3; skill++) {
            SkiMountain x = new SkiMountain();
            due("skill " + skill, x.skier(skill), 0);
            due("one", x.about(4), 1);
        }
        for (int skill : new int[] {-1, 4, 5, MIN, MAX}) {
            SkiMountain x = new SkiMountain();
            due("skill " + skill, x.skier(skill), NONE);
            due("none", x.about(4), 0);
            due("no SKIER 0", x.places(0, 0, 0), NONE);
            due("the next is 0", x.skier(0), 0);
        }
    }

    /** "SKIERS, 8 at most"; "or there are 8." */
    private static void eightSkiers() {
        SkiMountain x = new SkiMountain();
        for (int n = 0; n < 8; n++) {
            due("skier " + n, x.skier(3), n);
            due("how many", x.about(4), n + 1);
        }
        due("a 9th", x.skier(3), NONE);
        due("a 9th of no SKILL", x.skier(4), NONE);
        due("8", x.about(4), 8);
        due("SKIER 7", x.can(7, 0, 0, 0), 1);
        due("SKIER 8", x.can(8, 0, 0, 0), NONE);
        due("another MOUNTAIN", x.mountain(), 0);
        due("8 still", x.skier(0), NONE);
    }

    /** "stand at home at MINUTE 0": at the home that is told, whenever they are. */
    private static void skiersStandAtHome() {
        SkiMountain x = new SkiMountain();
        x.skier(0);
        due("p0", x.can(0, 0, 0, 0), 1);
        due("home p9", Check.mountain(x, "home p9;"), 1);
        due("p9", x.can(0, 9, 0, 0), 1);
        due("not p0", x.can(0, 0, 0, 0), 0);
        due("nowhere else", x.places(0, 0, 0), 1);
        x.later(50);
        x.skier(0);
        due("a later one, as known ahead", x.can(1, 9, 0, 0), 1);
        due("both", x.meet(0, 1, 9, 0, 0), 0);
    }

    // ---- 16, 17: pass, unpass

    /** "NONE, doing nothing, if it can't be": SKIERS. */
    private static void passOfWhom() {
        SkiMountain x = Check.made(HILL);
        due("of none", x.pass(0, 0, 100), NONE);
        x.skier(0);
        x.skier(0);
        due("the last", x.pass(1, 0, 100), 0);
        for (int skier : new int[] {-1, 2, 7, 8, MIN, MAX}) {
            due("of " + skier, x.pass(skier, 0, 100), NONE);
        }
        due("the first", x.pass(0, 0, 100), 1);
        due("two", x.about(5), 2);
    }

    /** "(a LIFT without a gate, too)". */
    private static void passOnWhat() {
        SkiMountain x = hill();
        for (int lift : new int[] {-1, 1, 2, 5, 6, 9, 10, 11, 16, MIN, MAX}) {
            due("on " + lift, x.pass(0, lift, 100), NONE);
        }
        due("none", x.about(5), 0);
        due("on 0", x.pass(0, 0, 100), 0);
        SkiMountain y = Check.made("lift f p1 p2 takes 5 seats 1 from 0 to 480;"
            + "lift g p0 p1 takes 10 seats 1 from 100 to 200 gate;");
        y.skier(0);
        due("no gate", y.pass(0, 0, 100), NONE);
        due("the gate of the second", y.pass(0, 1, 100), 0);
    }

    /** "A PASS at a MINUTE (0 .. 479)". */
    private static void passWhen() {
        for (int minute : new int[] {0, 1, 99, 100, 199, 200, 478, 479}) {
            SkiMountain x = hill();
            due("at " + minute, x.pass(0, 0, minute), 0);
            due("one", x.about(5), 1);
            due("he got on", x.canOn(0, 0, minute, 0), 1);
        }
        for (int minute : new int[] {-1, 480, 481, 540, MIN, MAX}) {
            SkiMountain x = hill();
            due("at " + minute, x.pass(0, 0, minute), NONE);
            due("none", x.about(5), 0);
            due("at home", x.can(0, 0, 540, 0), 1);
        }
    }

    /** "PASSES, 100 at most"; "or there are 100." */
    private static void hundredPasses() {
        SkiMountain x = hill();
        x.skier(3);
        for (int n = 0; n < 99; n++) {
            x.pass(0, 0, 100);
        }
        due("the 100th", x.pass(1, 0, 150), 99);
        due("100", x.about(5), 100);
        due("the 101st", x.pass(1, 0, 170), NONE);
        due("of another", x.pass(0, 0, 170), NONE);
        due("100 still", x.about(5), 100);
        due("the 100th counts", x.canOn(1, 0, 150, 0), 1);
        due("the 101st does not", x.canOn(1, 0, 170, 0), 0);
        due("no PASS 100", x.unpass(100), false);
        due("PASS 99", x.unpass(99), true);
        due("no more though", x.pass(1, 0, 170), NONE);
        due("another MOUNTAIN", Check.mountain(x, HILL), 3);
        due("none then", x.about(5), 0);
        due("a first", x.pass(1, 0, 170), 0);
    }

    /** What is UNTOLD is a PASS still. */
    private static void untoldPassesAreCounted() {
        SkiMountain x = hill();
        for (int n = 0; n < 100; n++) {
            x.pass(0, 0, 100 + n);
        }
        for (int n = 0; n < 100; n++) {
            due("unpass " + n, x.unpass(n), true);
        }
        due("none counts", x.can(0, 0, 540, 0), 1);
        due("100", x.about(5), 100);
        due("no more", x.pass(0, 0, 100), NONE);
    }

    /** "its number": from 0 on, whatever is UNTOLD. */
    private static void numbersOfPasses() {
        SkiMountain x = hill();
        due("0", x.pass(0, 0, 100), 0);
        due("untold", x.unpass(0), true);
        due("1", x.pass(0, 0, 100), 1);
        due("none", x.pass(0, 0, 480), NONE);
        due("2", x.pass(0, 0, 120), 2);
        due("a LAW", Check.law(x, ""), 0);
        due("3", x.pass(0, 0, 140), 3);
    }

    /** "A PASS is UNTOLD: true; false if it is so already". */
    private static void unpassOnce() {
        SkiMountain x = hill();
        x.pass(0, 0, 100);
        x.pass(0, 0, 150);
        x.later(10);
        due("0", x.unpass(0), true);
        due("again", x.unpass(0), false);
        x.later(10);
        due("later", x.unpass(0), false);
        due("UNTOLD as at first", x.canOn(0, 0, 100, 10), 0);
        due("not ahead of it", x.canOn(0, 0, 100, 9), 1);
        due("the other", x.canOn(0, 0, 150, 20), 1);
        due("1", x.unpass(1), true);
    }

    /** "or there is none such." */
    private static void unpassNoneSuch() {
        SkiMountain x = hill();
        due("0 of none", x.unpass(0), false);
        x.pass(0, 0, 100);
        for (int n : new int[] {-1, 1, 99, 100, MIN, MAX}) {
            due("unpass " + n, x.unpass(n), false);
        }
        due("it counts", x.canOn(0, 0, 100, 0), 1);
    }

    // ---- as known at k

    /** PASSES are TOLD "like WEATHER": at k or before. */
    private static void passToldAtK() {
        SkiMountain x = hill();
        x.later(10);
        x.pass(0, 0, 100);
        for (int k : new int[] {MIN, -1, 0, 9, 10, 11, 100001, MAX}) {
            due("up at " + k, x.can(0, 1, 110, k), k >= 10 ? 1 : 0);
            due("on it at " + k, x.canOn(0, 0, 105, k), k >= 10 ? 1 : 0);
            due("home at " + k, x.can(0, 0, 105, k), k >= 10 ? 0 : 1);
            due("places at " + k, x.places(0, 105, k), 1);
        }
    }

    /** "and UNTOLD like WEATHER": not at k or before. */
    private static void passUntoldAtK() {
        SkiMountain x = hill();
        x.later(10);
        x.pass(0, 0, 100);
        x.later(10);
        x.unpass(0);
        for (int k : new int[] {MIN, 0, 9, 10, 19, 20, 21, MAX}) {
            boolean known = k >= 10 && k < 20;
            due("up at " + k, x.can(0, 1, 110, k), known ? 1 : 0);
            due("home at " + k, x.can(0, 0, 105, k), known ? 0 : 1);
        }
    }

    /** TOLD and UNTOLD at one TIME, it is never known. */
    private static void passOfOneTime() {
        SkiMountain x = hill();
        x.later(10);
        x.pass(0, 0, 100);
        due("at the same", x.unpass(0), true);
        for (int k : new int[] {MIN, 9, 10, 11, MAX}) {
            due("never known at " + k, x.can(0, 0, 105, k), 1);
        }
    }

    // ---- 18, 19: can, canOn

    /** "at a MINUTE (0 .. 540)". */
    private static void minutesOfCan() {
        SkiMountain x = hill();
        for (int minute : new int[] {0, 1, 479, 480, 481, 539, 540}) {
            due("home at " + minute, x.can(0, 0, minute, 0), 1);
            due("not up at " + minute, x.can(0, 1, minute, 0), 0);
        }
        for (int minute : new int[] {-1, -2, 541, 542, MIN, MAX}) {
            due("can at " + minute, x.can(0, 0, minute, 0), NONE);
            due("canOn at " + minute, x.canOn(0, 0, minute, 0), NONE);
            due("places at " + minute, x.places(0, minute, 0), NONE);
        }
    }

    /** "at a P": 0 .. 9; "NONE if there is none such." */
    private static void placesOfCan() {
        SkiMountain x = hill();
        for (int p = 0; p <= 9; p++) {
            due("P " + p, x.can(0, p, 5, 0), p == 0 ? 1 : 0);
        }
        for (int p : new int[] {-1, 10, 11, MIN, MAX}) {
            due("P " + p, x.can(0, p, 5, 0), NONE);
        }
    }

    /** SKIERS: "NONE if there is none such." */
    private static void skiersOfCan() {
        SkiMountain x = hill();
        x.skier(2);
        for (int skier : new int[] {-1, 2, 3, 8, MIN, MAX}) {
            due("can " + skier, x.can(skier, 0, 5, 0), NONE);
            due("canOn " + skier, x.canOn(skier, 0, 5, 0), NONE);
            due("places " + skier, x.places(skier, 5, 0), NONE);
        }
        due("can 1", x.can(1, 0, 5, 0), 1);
        due("canOn 1", x.canOn(1, 0, 5, 0), 0);
        due("places 1", x.places(1, 5, 0), 1);
    }

    /** WAYS: "NONE likewise." */
    private static void waysOfCanOn() {
        SkiMountain x = hill();
        for (int way = -2; way <= 18; way++) {
            boolean there = way == 0 || way == 1 || way == 10;
            due("WAY " + way, x.canOn(0, way, 5, 0), there ? 0 : NONE);
        }
        due("WAY MIN", x.canOn(0, MIN, 5, 0), NONE);
        due("WAY MAX", x.canOn(0, MAX, 5, 0), NONE);
    }

    /** canOn at MINUTES from 0 on and up to 540. */
    private static void minutesOfCanOn() {
        SkiMountain x = Check.made("run r p0 p1 grade 0 takes 60 snow 0;lift f p0 p2 takes 30 seats 1 from 0 to 480;");
        x.skier(0);
        due("RUN at 0", x.canOn(0, 10, 0, 0), 1);
        due("RUN at 538", x.canOn(0, 10, 538, 0), 1);
        due("RUN at 539", x.canOn(0, 10, 539, 0), 0);
        due("RUN at 540", x.canOn(0, 10, 540, 0), 0);
        due("LIFT at 0", x.canOn(0, 0, 0, 0), 1);
        due("LIFT at 508", x.canOn(0, 0, 508, 0), 1);
        due("LIFT at 509", x.canOn(0, 0, 509, 0), 0);
        due("LIFT at 540", x.canOn(0, 0, 540, 0), 0);
    }

    /** "(begun at that MINUTE or before, ended behind it)". */
    private static void beginsAndEnds() {
        SkiMountain x = hill();
        x.pass(0, 0, 120);
        int[] minutes = {119, 120, 121, 128, 129, 130, 131};
        int[] on = {0, 1, 1, 1, 1, 0, 0};
        int[] below = {1, 1, 0, 0, 0, 0, 0};
        int[] above = {0, 0, 0, 0, 0, 1, 1};
        for (int n = 0; n < minutes.length; n++) {
            due("on it at " + minutes[n], x.canOn(0, 0, minutes[n], 0), on[n]);
            due("below at " + minutes[n], x.can(0, 0, minutes[n], 0), below[n]);
            due("above at " + minutes[n], x.can(0, 1, minutes[n], 0), above[n]);
        }
    }

    /** "at it nobody gets on but by a PASS that counts". */
    private static void nobodyWithoutAPass() {
        SkiMountain x = hill();
        for (int minute : new int[] {0, 100, 150, 199, 540}) {
            due("on it at " + minute, x.canOn(0, 0, minute, 0), 0);
            due("above at " + minute, x.can(0, 1, minute, 0), 0);
        }
        x.pass(0, 0, 100);
        x.unpass(0);
        due("nor by one that does not count", x.canOn(0, 0, 100, 0), 0);
    }

    /** "on other LIFTS one may have": or not. */
    private static void onOtherLiftsOneMay() {
        SkiMountain x = hill();
        x.pass(0, 0, 100);
        due("stays up", x.can(0, 1, 540, 0), 1);
        due("or rides on", x.canOn(0, 1, 110, 0), 1);
        due("and stays there", x.can(0, 2, 540, 0), 1);
        due("at once", x.can(0, 2, 115, 0), 1);
        due("not ahead of it", x.can(0, 2, 114, 0), 0);
        due("or comes home", x.can(0, 0, 135, 0), 1);
        due("not ahead of it", x.can(0, 0, 134, 0), 0);
    }

    /** A PASS tells of its own MINUTE: nobody gets on in the next to it. */
    private static void passAtItsMinuteAlone() {
        SkiMountain x = Check.made("lift g p0 p1 takes 1 seats 1 from 0 to 480 gate;run r p1 p0 grade 0 takes 1 snow 0;");
        x.skier(0);
        x.pass(0, 0, 50);
        due("on it at 49", x.canOn(0, 0, 49, 0), 0);
        due("on it at 50", x.canOn(0, 0, 50, 0), 1);
        due("on it at 51", x.canOn(0, 0, 51, 0), 0);
        due("home at 52", x.can(0, 0, 52, 0), 1);
        due("not on it at 52", x.canOn(0, 0, 52, 0), 0);
        x.pass(0, 0, 52);
        due("on it at 52", x.canOn(0, 0, 52, 0), 1);
        due("must be down at 52", x.can(0, 1, 52, 0), 0);
        due("may be up at 51", x.can(0, 1, 51, 0), 1);
    }

    /** "OPEN as told or not for PASSES: that one got on is enough". */
    private static void openOrNotForPasses() {
        for (int minute : new int[] {0, 99, 100, 150, 199, 200, 479}) {
            SkiMountain x = hill();
            Check.law(x, "shut lift if 1=1;");
            x.pass(0, 0, minute);
            due("SHUT or off duty at " + minute, x.open(0, minute, 0), 0);
            due("he got on at " + minute, x.canOn(0, 0, minute, 0), 1);
            due("he came up", x.can(0, 1, minute + 10, 0), 1);
        }
    }

    /** For what is begun without a PASS it must be OPEN. */
    private static void openForOthers() {
        SkiMountain x = Check.made("lift f p0 p1 takes 5 seats 1 from 50 to 61;run r p1 p2 grade 0 takes 5 snow 0;");
        x.skier(0);
        int[] minutes = {49, 50, 60, 61, 64, 65};
        int[] on = {0, 1, 1, 1, 1, 0};
        int[] shut = {0, 1, 1, 1, 0, 0};
        for (int n = 0; n < minutes.length; n++) {
            due("on it at " + minutes[n], x.canOn(0, 0, minutes[n], 0), on[n]);
        }
        Check.law(x, "shut lift if hour=1;shut run if hour=0;");
        for (int n = 0; n < minutes.length; n++) {
            due("SHUT from 60 on: " + minutes[n], x.canOn(0, 0, minutes[n], 0), n == 4 ? 0 : shut[n]);
        }
        due("on it at 63", x.canOn(0, 0, 63, 0), 1);
        due("RUN at 59", x.canOn(0, 10, 59, 0), 0);
        due("RUN at 60", x.canOn(0, 10, 60, 0), 1);
    }

    /** A PASS at 0 is of home alone. */
    private static void passAtTheFirstMinute() {
        SkiMountain x = hill();
        x.pass(0, 0, 0);
        due("home at 0", x.can(0, 0, 0, 0), 1);
        due("on it at 0", x.canOn(0, 0, 0, 0), 1);
        due("two places", x.places(0, 0, 0), 2);
        due("not home at 1", x.can(0, 0, 1, 0), 0);
        due("up at 10", x.can(0, 1, 10, 0), 1);
        SkiMountain y = Check.made(HILL + "home p1;");
        y.skier(1);
        y.pass(0, 0, 0);
        due("from where he is not", y.places(0, 0, 0) + y.places(0, 540, 0), 0);
    }

    /** A PASS at 479: what is begun is ended. */
    private static void passAtTheLastMinute() {
        SkiMountain x = Check.made("lift g p0 p1 takes 30 seats 1 from 0 to 100 gate;");
        x.skier(1);
        x.pass(0, 0, 479);
        due("home at 479", x.can(0, 0, 479, 0), 1);
        due("on it at 508", x.canOn(0, 0, 508, 0), 1);
        due("not at 509", x.canOn(0, 0, 509, 0), 0);
        due("up at 509", x.can(0, 1, 509, 0), 1);
        due("not at 508", x.can(0, 1, 508, 0), 0);
        due("up at 540", x.can(0, 1, 540, 0), 1);
        due("not home at 480", x.can(0, 0, 480, 0), 0);
    }

    /** Who got on at 479 stood there then, and nowhere else. */
    private static void passAtTheLastMinuteBinds() {
        SkiMountain x = Check.made("lift g p0 p1 takes 30 seats 1 from 0 to 100 gate;lift f p0 p2 takes 5 seats 1 from 0 to 480;"
            + "run r p2 p0 grade 0 takes 7 snow 0;");
        x.skier(0);
        due("up at 479 without it", x.can(0, 2, 479, 0), 1);
        due("on the way up without it", x.canOn(0, 1, 479, 0), 1);
        x.pass(0, 0, 479);
        due("home at 479", x.can(0, 0, 479, 0), 1);
        due("not up at 479", x.can(0, 2, 479, 0), 0);
        due("not on the way up", x.canOn(0, 1, 479, 0), 0);
        due("nor down", x.canOn(0, 10, 479, 0), 0);
        due("there and on it", x.places(0, 479, 0), 2);
        due("down just in time", x.canOn(0, 10, 478, 0), 1);
        due("from above at 472", x.can(0, 2, 472, 0), 1);
        due("not at 473", x.can(0, 2, 473, 0), 0);
        due("only on it at 480", x.places(0, 480, 0), 1);
    }

    /** "each of the SKIER's PASSES that count is one of the beginnings, at its MINUTE". */
    private static void eachPassIsABeginning() {
        SkiMountain x = hill();
        x.pass(0, 0, 100);
        x.pass(0, 0, 140);
        due("home again at 135", x.can(0, 0, 135, 0), 1);
        due("must be home at 140", x.can(0, 0, 140, 0), 1);
        due("may not stay up: p1", x.can(0, 1, 140, 0), 0);
        due("may not stay up: p2", x.can(0, 2, 121, 0), 0);
        due("leaves p2 at 120", x.can(0, 2, 120, 0), 1);
        due("leaves p1 at 115", x.can(0, 1, 115, 0), 1);
        due("not later", x.can(0, 1, 116, 0), 0);
        due("on the RUN at 139", x.canOn(0, 10, 139, 0), 1);
        due("up once more", x.can(0, 1, 150, 0), 1);
    }

    /** Just in time for the next PASS, and one MINUTE too late. */
    private static void nextPassJustInTime() {
        SkiMountain x = hill();
        x.pass(0, 0, 100);
        x.pass(0, 0, 135);
        due("just in time", x.places(0, 135, 0), 2);
        due("on the LIFT between", x.canOn(0, 1, 114, 0), 1);
        due("no MINUTE to wait", x.can(0, 1, 111, 0), 0);
        SkiMountain y = hill();
        y.pass(0, 0, 100);
        y.pass(0, 0, 134);
        due("one too early", y.places(0, 135, 0), 0);
        due("nowhere ahead of all", y.places(0, 0, 0), 0);
    }

    /** "(So PASSES that go against one another leave nowhere.)" */
    private static void againstOneAnother() {
        SkiMountain x = Check.made("lift g p0 p1 takes 10 seats 1 from 0 to 480 gate;"
            + "lift h p0 p1 takes 10 seats 1 from 0 to 480 gate;lift i p1 p0 takes 10 seats 1 from 0 to 480 gate;");
        x.skier(0);
        x.pass(0, 0, 100);
        x.pass(0, 1, 100);
        for (int minute : new int[] {0, 50, 99, 100, 101, 110, 300, 540}) {
            due("two at one MINUTE: " + minute, x.places(0, minute, 0), 0);
        }
        x.unpass(1);
        due("one of them", x.places(0, 105, 0), 1);
        x.pass(0, 2, 109);
        due("from above while he rides", x.places(0, 0, 0), 0);
        x.unpass(2);
        x.pass(0, 2, 110);
        due("as he comes up", x.can(0, 0, 120, 0), 1);
        x.pass(0, 2, 111);
        due("from where he has left", x.places(0, 540, 0), 0);
        x.later(1);
        x.unpass(4);
        due("as known ahead", x.places(0, 540, 0), 0);
        due("as known now", x.places(0, 540, 1), 1);
    }

    /** Whichever two LIFTS: nobody gets on two at one MINUTE, nor on a third for it. */
    private static void anyTwoLiftsAgainstOneAnother() {
        StringBuilder b = new StringBuilder();
        for (int lift = 0; lift < 6; lift++) {
            b.append("lift l").append((char) ('a' + lift)).append(" p0 p").append(lift + 1)
                .append(" takes 10 seats 1 from 0 to 480 gate;");
        }
        for (int one = 0; one < 6; one++) {
            for (int other = 0; other < 6; other++) {
                SkiMountain x = Check.made(b.toString());
                x.skier(0);
                x.pass(0, one, 100);
                x.pass(0, other, 100);
                boolean same = one == other;
                String both = one + " and " + other;
                due("home at 0, " + both, x.can(0, 0, 0, 0), same ? 1 : 0);
                for (int lift = 0; lift < 6; lift++) {
                    due("on " + lift + ", " + both, x.canOn(0, lift, 105, 0), same && lift == one ? 1 : 0);
                }
                due("places at 540, " + both, x.places(0, 540, 0), same ? 1 : 0);
                x.pass(0, (one + 1) % 6, 100);
                due("nowhere by three, " + both, x.places(0, 0, 0), 0);
            }
        }
    }

    /** Two PASSES of one LIFT at one MINUTE are one getting on. */
    private static void twiceTheSame() {
        SkiMountain x = hill();
        x.pass(0, 0, 100);
        x.pass(0, 0, 100);
        due("on it", x.canOn(0, 0, 105, 0), 1);
        x.unpass(0);
        due("by the other", x.canOn(0, 0, 105, 0), 1);
        x.unpass(1);
        due("by none", x.canOn(0, 0, 105, 0), 0);
        due("home", x.can(0, 0, 540, 0), 1);
    }

    /** A PASS is of its SKIER alone. */
    private static void passesOfOthers() {
        SkiMountain x = hill();
        x.skier(1);
        x.pass(1, 0, 100);
        due("0 stays home", x.can(0, 0, 540, 0), 1);
        due("0 is not on it", x.canOn(0, 0, 105, 0), 0);
        due("1 does not", x.can(1, 0, 105, 0), 0);
        due("1 is on it", x.canOn(1, 0, 105, 0), 1);
        x.pass(0, 0, 102);
        due("1 is up at 110", x.can(1, 1, 110, 0), 1);
        due("0 is up at 112", x.can(0, 1, 112, 0) * 10 + x.can(0, 1, 111, 0), 10);
    }

    /** "a RUN if its grade is not above the SKILL". */
    private static void runsByGrade() {
        for (int grade = 0; grade <= 3; grade++) {
            SkiMountain x = Check.made("run r p0 p1 grade " + grade + " takes 20 snow 0;");
            for (int skill = 0; skill <= 3; skill++) {
                x.skier(skill);
                due("grade " + grade + " by " + skill, x.can(skill, 1, 540, 0), grade <= skill ? 1 : 0);
                due("on it", x.canOn(skill, 10, 0, 0), grade <= skill ? 1 : 0);
                due("places", x.places(skill, 0, 0), grade <= skill ? 2 : 1);
            }
        }
    }

    /** Each of the 7 RUNS and of the 6 LIFTS, where no other WAY can be begun. */
    private static void eachWayAlone() {
        for (int one = 0; one < 7; one++) {
            StringBuilder runs = new StringBuilder();
            StringBuilder lifts = new StringBuilder();
            for (int n = 0; n < 7; n++) {
                runs.append("run r").append((char) ('a' + n)).append(" p0 p").append(n + 1).append(" grade ")
                    .append(n == one ? 0 : 3).append(" takes 9 snow 0;");
            }
            for (int n = 0; n < 6; n++) {
                lifts.append("lift l").append((char) ('a' + n)).append(" p0 p").append(n + 1).append(" takes ")
                    .append(n == one ? 9 : 8).append(" seats 1 from 0 to 480;");
            }
            alone(Check.made(runs.toString()), 10, 7, one);
            if (one < 6) {
                SkiMountain x = Check.made(lifts.toString());
                due("law", Check.law(x, "shut lift if takes=8;"), 1);
                alone(x, 0, 6, one);
            }
        }
    }

    private static void alone(SkiMountain x, int first, int many, int one) {
        x.skier(0);
        for (int n = 0; n < many; n++) {
            int way = first + n;
            due("WAY " + way + ", " + one + " alone", x.canOn(0, way, 479, 0), n == one ? 1 : 0);
            due("its end", x.can(0, n + 1, 9, 0), n == one ? 1 : 0);
        }
        due("places", x.places(0, 20, 0), 3);
    }

    /** SKIERS take less on a RUN for each grade, too. */
    private static void fasterByGrade() {
        SkiMountain x = Check.made("run r p0 p1 grade 0 takes 30 snow 0;run s p0 p2 grade 0 takes 1 snow 0;");
        int[] takes = {30, 23, 15, 8};
        for (int skill = 0; skill <= 3; skill++) {
            x.skier(skill);
            due("by " + skill, x.can(skill, 1, takes[skill], 0), 1);
            due("not ahead of it", x.can(skill, 1, takes[skill] - 1, 0), 0);
            due("on it to the end", x.canOn(skill, 10, 478 + takes[skill], 0), 1);
            due("not longer", x.canOn(skill, 10, 479 + takes[skill], 0), 0);
            due("1 at least", x.can(skill, 2, 1, 0) * 10 + x.can(skill, 2, 0, 0), 10);
        }
    }

    /** What is begun at 479 at the latest is ended, at 539 at the latest; nothing is begun at 480. */
    private static void lastBeginnings() {
        SkiMountain x = Check.made("run r p0 p1 grade 0 takes 60 snow 0;run s p1 p2 grade 0 takes 1 snow 0;");
        x.skier(0);
        due("home at 479", x.can(0, 0, 479, 0), 1);
        due("below at 539", x.can(0, 1, 539, 0), 1);
        due("one more at 479", x.canOn(0, 11, 479, 0), 1);
        due("not at 480", x.canOn(0, 11, 480, 0), 0);
        due("the end", x.places(0, 540, 0), 3);
        due("at 538", x.places(0, 538, 0), 4);
        SkiMountain only = Check.made("lift f p0 p1 takes 30 seats 1 from 479 to 480;");
        only.skier(0);
        due("up at 509", only.can(0, 1, 509, 0) * 10 + only.can(0, 1, 508, 0), 10);
    }

    /** "(WEATHER as known at k": what is SHUT then. */
    private static void weatherAsKnown() {
        SkiMountain x = Check.made("lift f p0 p1 takes 5 seats 1 from 0 to 480;");
        Check.law(x, "shut lift if wind>50;");
        x.skier(0);
        x.later(10);
        x.weather(0, 51, 0);
        x.weather(1, 50, 0);
        x.later(10);
        x.untell(0);
        due("ahead", x.can(0, 1, 5, 9), 1);
        due("then", x.can(0, 1, 64, 10), 0);
        due("OPEN again", x.can(0, 1, 65, 10), 1);
        due("to the last", x.can(0, 1, 64, 19), 0);
        due("behind", x.can(0, 1, 5, 20), 1);
        due("on it", x.canOn(0, 0, 0, 20) * 10 + x.canOn(0, 0, 0, 10), 10);
    }

    // ---- 20: places

    /** "How many places (P and WAYS) .. in all". */
    private static void placesInAll() {
        StringBuilder b = new StringBuilder();
        for (int n = 0; n < 6; n++) {
            b.append("lift l").append((char) ('a' + n)).append(" p0 p").append(n + 1).append(" takes 30 seats 1 from 0 to 480;");
        }
        for (int n = 0; n < 7; n++) {
            b.append("run r").append((char) ('a' + n)).append(n < 3 ? " p0 p" + (n + 7) : " p1 p0")
                .append(" grade 0 takes 60 snow 0;");
        }
        SkiMountain x = Check.made(b.toString());
        x.skier(0);
        due("at 0", x.places(0, 0, 0), 1 + 6 + 3);
        due("at 29", x.places(0, 29, 0), 1 + 6 + 3);
        due("at 30", x.places(0, 30, 0), 7 + 6 + 7);
        due("at 60", x.places(0, 60, 0), 10 + 13);
        due("at 508", x.places(0, 508, 0), 10 + 13);
        due("at 509", x.places(0, 509, 0), 10 + 7);
        due("at 538", x.places(0, 538, 0), 10 + 7);
        due("at 539", x.places(0, 539, 0), 10);
        due("at 540", x.places(0, 540, 0), 10);
    }

    /** None, if PASSES go against one another. */
    private static void placesNowhere() {
        SkiMountain x = hill();
        due("home", x.places(0, 0, 0), 1);
        x.pass(0, 0, 100);
        x.pass(0, 0, 101);
        for (int minute : new int[] {0, 99, 100, 101, 110, 111, 540}) {
            due("at " + minute, x.places(0, minute, 0), 0);
        }
    }

    /** "NONE likewise." */
    private static void placesAsked() {
        SkiMountain x = hill();
        due("0", x.places(0, 0, 0), 1);
        due("540", x.places(0, 540, 0), 1);
        due("-1", x.places(0, -1, 0), NONE);
        due("541", x.places(0, 541, 0), NONE);
        due("SKIER 1", x.places(1, 0, 0), NONE);
        due("SKIER -1", x.places(-1, 0, 0), NONE);
    }

    // ---- 21: meet

    /** "The first MINUTE from one on at which two SKIERS CAN both be at a P". */
    private static void meetFromOneOn() {
        SkiMountain x = hill();
        x.skier(1);
        x.pass(0, 0, 100);
        x.pass(1, 0, 130);
        due("home at 0", x.meet(0, 1, 0, 0, 0), 0);
        due("home to 100", x.meet(0, 1, 0, 100, 0), 100);
        // the first comes home at 135, when the other is gone: he is home again at 165
        due("then when both have come home", x.meet(0, 1, 0, 101, 0), 165);
        due("up", x.meet(0, 1, 1, 0, 0), 140);
        due("the other way round", x.meet(1, 0, 1, 0, 0), 140);
        due("from 140", x.meet(0, 1, 1, 140, 0), 140);
        due("from 141", x.meet(0, 1, 1, 141, 0), 141);
        due("from 540", x.meet(0, 1, 1, 540, 0), 540);
        due("at the top", x.meet(0, 1, 2, 0, 0), 145);
        SkiMountain y = Check.made("lift f p0 p1 takes 30 seats 1 from 479 to 480;");
        y.skier(0);
        y.skier(0);
        due("late", y.meet(0, 1, 1, 0, 0), 509);
    }

    /** "NONE if there is none". */
    private static void meetNever() {
        SkiMountain x = hill();
        x.skier(1);
        due("nobody is up", x.meet(0, 1, 1, 0, 0), NONE);
        x.pass(0, 0, 100);
        due("one is up", x.meet(0, 1, 1, 0, 0), NONE);
        due("home to 100 alone", x.meet(0, 1, 0, 0, 0), 0);
        x.pass(0, 0, 100);
        x.pass(0, 0, 102);
        due("one is nowhere", x.meet(0, 1, 0, 0, 0), NONE);
        SkiMountain y = Check.made("lift g p0 p1 takes 10 seats 1 from 0 to 480 gate;");
        y.skier(0);
        y.skier(0);
        y.pass(0, 0, 100);
        due("home at 100", y.meet(0, 1, 0, 100, 0), 100);
        due("not behind it", y.meet(0, 1, 0, 101, 0), NONE);
    }

    /** "or they are not two, or one is none." */
    private static void meetAsked() {
        SkiMountain x = hill();
        due("one alone", x.meet(0, 1, 0, 0, 0), NONE);
        due("himself alone", x.meet(0, 0, 0, 0, 0), NONE);
        x.skier(0);
        due("two", x.meet(0, 1, 0, 0, 0), 0);
        due("0 and 0", x.meet(0, 0, 0, 0, 0), NONE);
        due("1 and 1", x.meet(1, 1, 0, 0, 0), NONE);
        for (int other : new int[] {-1, 2, 8, MIN, MAX}) {
            due("0 and " + other, x.meet(0, other, 0, 0, 0), NONE);
            due(other + " and 0", x.meet(other, 0, 0, 0, 0), NONE);
            due("both " + other, x.meet(other, other, 0, 0, 0), NONE);
        }
        for (int p : new int[] {-1, 10, MIN, MAX}) {
            due("P " + p, x.meet(0, 1, p, 0, 0), NONE);
        }
        for (int from : new int[] {-1, -2, 541, 542, MIN, MAX}) {
            due("from " + from, x.meet(0, 1, 0, from, 0), NONE);
        }
    }

    // ---- empty and full

    private static void emptyMountain() {
        SkiMountain x = new SkiMountain();
        x.skier(2);
        x.skier(2);
        due("home", x.can(0, 0, 540, MIN), 1);
        due("places", x.places(1, 540, MAX), 1);
        due("no WAY", x.canOn(0, 0, 0, 0), NONE);
        due("no RUN", x.canOn(0, 10, 0, 0), NONE);
        due("no PASS", x.pass(0, 0, 0), NONE);
        due("meet", x.meet(0, 1, 0, 7, 0), 7);
    }

    /** 8 SKIERS, 100 PASSES: twelve rounds of each and four more. */
    private static void fullOfSkiersAndPasses() {
        SkiMountain x = Check.made("lift g p0 p1 takes 10 seats 1 from 0 to 1 gate;run r p1 p0 grade 0 takes 10 snow 0;");
        for (int skier = 0; skier < 8; skier++) {
            x.skier(0);
        }
        for (int n = 0; n < 100; n++) {
            due("pass " + n, x.pass(n % 8, 0, n / 8 * 30 + n % 8), n);
        }
        for (int skier = 0; skier < 8; skier++) {
            due("up " + skier, x.can(skier, 1, 340 + skier, 0), 1);
            due("home " + skier, x.can(skier, 0, 350 + skier, 0), 1);
            due("up again " + skier, x.canOn(skier, 0, 360 + skier, 0), skier < 4 ? 1 : 0);
            due("to the end " + skier, x.places(skier, 540, 0), 2);
        }
    }
}
