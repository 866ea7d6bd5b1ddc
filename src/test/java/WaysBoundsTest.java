/** The boundaries of SOONEST, its WAYS and LAST: a test for each sentence that names one. */
public final class WaysBoundsTest {
    private static final int NONE = SkiMountain.NONE;
    private static final int MIN = Integer.MIN_VALUE;
    private static final int MAX = Integer.MAX_VALUE;
    private static final String PAIR = "lift a p0 p1 takes 30 seats 1 from 100 to 200;run b p1 p0 grade 2 takes 60 snow 0;";

    private WaysBoundsTest() {
    }

    public static void main(String[] args) {
        skills();
        placesAskedFor();
        minutesAskedFor();
        thereAlready();
        noWay();
        gradeAndSkill();
        aQuarterForEachGrade();
        liftsTakeAllMinutes();
        onDutyFromTo();
        openInItsHour();
        runsUpTo479();
        whatIsBegunIsEnded();
        changeAtTheSameMinute();
        asKnown();
        gatesBarNobody();
        nthWay();
        noWaysToWhereOneIs();
        firstByNumber();
        thoseThatCantBeBegun();
        justInTime();
        begunAsSoonAsItCanBe();
        goingRoundTheWayThere();
        lastOfHome();
        lastOfDuty();
        lastOfRuns();
        lastOfARow();
        lastByHours();
        lastAtZero();
        lastAsked();
        emptyMountain();
        fullMountain();
        Check.close();
    }

    private static void due(String call, long got, long want) {
        Check.due(call, got, want);
    }

    // ---- 12: soonest

    /** "a SKILL 0 .. 3"; "NONE if .. one can't be." */
    private static void skills() {
        SkiMountain x = Check.made("run b p1 p0 grade 0 takes 60 snow 0;");
        int[] want = {60, 45, 30, 15};
        for (int skill = 0; skill <= 3; skill++) {
            due("soonest by " + skill, x.soonest(skill, 1, 0, 0, 0), want[skill]);
            due("way by " + skill, x.way(skill, 1, 0, 0, 0, 0), 10);
            due("last by " + skill, x.last(skill, 1, 0), 479);
        }
        for (int skill : new int[] {-1, 4, MIN, MAX}) {
            due("soonest by " + skill, x.soonest(skill, 1, 0, 0, 0), NONE);
            due("soonest there by " + skill, x.soonest(skill, 0, 0, 0, 0), NONE);
            due("way by " + skill, x.way(skill, 1, 0, 0, 0, 0), NONE);
            due("last by " + skill, x.last(skill, 1, 0), NONE);
            due("last of home by " + skill, x.last(skill, 0, 0), NONE);
        }
    }

    /** P are 0 .. 9, those without WAYS, too. */
    private static void placesAskedFor() {
        SkiMountain x = Check.made("run b p9 p0 grade 0 takes 60 snow 0;");
        for (int p = 0; p <= 9; p++) {
            due("there already: " + p, x.soonest(0, p, 7, p, 0), 7);
            due("home from " + p, x.soonest(0, p, 7, 0, 0), p == 9 ? 67 : p == 0 ? 7 : NONE);
            due("from home to " + p, x.soonest(0, 0, 7, p, 0), p == 0 ? 7 : NONE);
            due("last of " + p, x.last(0, p, 0), p == 9 ? 479 : p == 0 ? 480 : NONE);
        }
        for (int p : new int[] {-1, 10, 11, MIN, MAX}) {
            due("from " + p, x.soonest(0, p, 7, 0, 0), NONE);
            due("to " + p, x.soonest(0, 9, 7, p, 0), NONE);
            due("from and to " + p, x.soonest(0, p, 7, p, 0), NONE);
            due("way from " + p, x.way(0, p, 7, 0, 0, 0), NONE);
            due("way to " + p, x.way(0, 9, 7, p, 0, 0), NONE);
            due("last of " + p, x.last(0, p, 0), NONE);
        }
    }

    /** "from a P and a MINUTE (0 .. 480)". */
    private static void minutesAskedFor() {
        SkiMountain x = Check.made(PAIR);
        due("0", x.soonest(2, 1, 0, 0, 0), 60);
        due("479", x.soonest(2, 1, 479, 0, 0), 539);
        due("480", x.soonest(2, 1, 480, 0, 0), NONE);
        due("480 there", x.soonest(2, 1, 480, 1, 0), 480);
        for (int minute : new int[] {-1, 481, 540, MIN, MAX}) {
            due("soonest from " + minute, x.soonest(2, 1, minute, 0, 0), NONE);
            due("there at " + minute, x.soonest(2, 1, minute, 1, 0), NONE);
            due("way from " + minute, x.way(2, 1, minute, 0, 0, 0), NONE);
        }
    }

    /** "the least MINUTE at which one can stand there": at once, where one is. */
    private static void thereAlready() {
        SkiMountain x = Check.made(PAIR);
        for (int minute : new int[] {0, 1, 99, 100, 479, 480}) {
            due("home at " + minute, x.soonest(0, 0, minute, 0, 0), minute);
            due("up at " + minute, x.soonest(0, 1, minute, 1, 0), minute);
            due("elsewhere at " + minute, x.soonest(0, 7, minute, 7, 0), minute);
        }
    }

    /** "NONE if there is no way". */
    private static void noWay() {
        SkiMountain x = Check.made(PAIR);
        due("to where nothing leads", x.soonest(3, 0, 0, 5, 0), NONE);
        due("from where nothing leads", x.soonest(3, 5, 0, 0, 0), NONE);
        due("too late for the LIFT", x.soonest(3, 0, 200, 1, 0), NONE);
        due("its last", x.soonest(3, 0, 199, 1, 0), 229);
        due("the RUN is too steep", x.soonest(1, 1, 0, 0, 0), NONE);
        due("way of none", x.way(1, 1, 0, 0, 0, 0), NONE);
    }

    /** "a RUN if its grade is not above the SKILL". */
    private static void gradeAndSkill() {
        for (int grade = 0; grade <= 3; grade++) {
            SkiMountain x = Check.made("run b p1 p0 grade " + grade + " takes 1 snow 0;");
            for (int skill = 0; skill <= 3; skill++) {
                due("grade " + grade + " by " + skill, x.soonest(skill, 1, 0, 0, 0), grade <= skill ? 1 : NONE);
                due("last", x.last(skill, 1, 0), grade <= skill ? 479 : NONE);
            }
        }
    }

    /** "a RUN less a quarter of these for each grade the SKILL is above it (cut, all of them together; 1 at least)". */
    private static void aQuarterForEachGrade() {
        int[] takes = {1, 2, 3, 4, 5, 6, 7, 8, 30, 59, 60};
        int[] one = {1, 2, 3, 3, 4, 5, 6, 6, 23, 45, 45};
        int[] two = {1, 1, 2, 2, 3, 3, 4, 4, 15, 30, 30};
        int[] three = {1, 1, 1, 1, 2, 2, 2, 2, 8, 15, 15};
        for (int n = 0; n < takes.length; n++) {
            for (int grade = 0; grade <= 3; grade++) {
                SkiMountain x = Check.made("run b p1 p0 grade " + grade + " takes " + takes[n] + " snow 0;");
                int[][] rows = {takes, one, two, three};
                for (int skill = grade; skill <= 3; skill++) {
                    int want = rows[skill - grade][n];
                    due(takes[n] + " of grade " + grade + " by " + skill, x.soonest(skill, 1, 0, 0, 0), want);
                }
            }
        }
    }

    /** A LIFT takes its minutes, whatever the SKILL. */
    private static void liftsTakeAllMinutes() {
        SkiMountain x = Check.made("lift a p0 p1 takes 30 seats 1 from 0 to 480;lift b p0 p2 takes 1 seats 1 from 0 to 480;");
        for (int skill = 0; skill <= 3; skill++) {
            due("30 by " + skill, x.soonest(skill, 0, 0, 1, 0), 30);
            due("1 by " + skill, x.soonest(skill, 0, 0, 2, 0), 1);
        }
    }

    /** "on duty in MINUTES from .. to (that not)": waited for, and missed by one. */
    private static void onDutyFromTo() {
        SkiMountain x = Check.made(PAIR);
        int[] minutes = {0, 99, 100, 101, 199, 200, 480};
        int[] there = {130, 130, 130, 131, 229, NONE, NONE};
        for (int n = 0; n < minutes.length; n++) {
            due("from " + minutes[n], x.soonest(0, 0, minutes[n], 1, 0), there[n]);
        }
        SkiMountain last = Check.made("lift a p0 p1 takes 30 seats 1 from 479 to 480;");
        due("479 alone", last.soonest(0, 0, 0, 1, 0), 509);
        due("from 479", last.soonest(0, 0, 479, 1, 0), 509);
        due("from 480", last.soonest(0, 0, 480, 1, 0), NONE);
        SkiMountain first = Check.made("lift a p0 p1 takes 30 seats 1 from 0 to 1;");
        due("0 alone", first.soonest(0, 0, 0, 1, 0), 30);
        due("from 1", first.soonest(0, 0, 1, 1, 0), NONE);
    }

    /** "at a MINUTE at which it is OPEN": HOURS in which it is SHUT are waited out. */
    private static void openInItsHour() {
        SkiMountain x = Check.made("lift a p0 p1 takes 30 seats 1 from 30 to 450;run b p1 p0 grade 0 takes 60 snow 0;");
        Check.law(x, "shut lift if hour=1 or hour=2 or hour=7;shut run if not hour=3;");
        int[] minutes = {0, 30, 59, 60, 119, 179, 180, 419, 420, 449};
        int[] up = {60, 60, 89, 210, 210, 210, 210, 449, NONE, NONE};
        int[] down = {240, 240, 240, 240, 240, 240, 240, NONE, NONE, NONE};
        for (int n = 0; n < minutes.length; n++) {
            due("up from " + minutes[n], x.soonest(0, 0, minutes[n], 1, 0), up[n]);
            due("down from " + minutes[n], x.soonest(0, 1, minutes[n], 0, 0), down[n]);
        }
        due("down from 239", x.soonest(0, 1, 239, 0, 0), 299);
        due("down from 240", x.soonest(0, 1, 240, 0, 0), NONE);
        Check.law(x, "shut lift if 1=1;shut run if 1=1;");
        due("SHUT in all HOURS", x.soonest(0, 0, 0, 1, 0), NONE);
        due("the RUN, too", x.soonest(0, 1, 0, 0, 0), NONE);
    }

    /** "a RUN (0 .. 479)". */
    private static void runsUpTo479() {
        SkiMountain x = Check.made("run b p1 p0 grade 0 takes 1 snow 0;run c p2 p1 grade 0 takes 1 snow 0;");
        due("0", x.soonest(0, 1, 0, 0, 0), 1);
        due("479", x.soonest(0, 1, 479, 0, 0), 480);
        due("480", x.soonest(0, 1, 480, 0, 0), NONE);
        due("two from 478", x.soonest(0, 2, 478, 0, 0), 480);
        due("two from 479", x.soonest(0, 2, 479, 0, 0), NONE);
        due("one from 479", x.soonest(0, 2, 479, 1, 0), 480);
    }

    /** "What is begun is ended": off duty, SHUT, or behind 480. */
    private static void whatIsBegunIsEnded() {
        SkiMountain x = Check.made("lift a p0 p1 takes 30 seats 1 from 0 to 60;run b p0 p2 grade 0 takes 60 snow 0;"
            + "lift c p0 p3 takes 30 seats 1 from 479 to 480;");
        Check.law(x, "shut run if not hour=0 and not hour=7;");
        due("off duty meanwhile", x.soonest(0, 0, 59, 1, 0), 89);
        due("SHUT meanwhile", x.soonest(0, 0, 59, 2, 0), 119);
        due("SHUT when asked", x.soonest(0, 0, 60, 2, 0), 480);
        due("a RUN behind 480", x.soonest(0, 0, 479, 2, 0), 539);
        due("a LIFT behind 480", x.soonest(0, 0, 479, 3, 0), 509);
    }

    /** One WAY may begin in the MINUTE in which the one ahead ends. */
    private static void changeAtTheSameMinute() {
        SkiMountain x = Check.made("lift a p0 p1 takes 10 seats 1 from 0 to 480;lift b p1 p2 takes 5 seats 1 from 60 to 71;");
        due("just in time", x.soonest(0, 0, 60, 2, 0), 75);
        due("one too late", x.soonest(0, 0, 61, 2, 0), NONE);
        due("early", x.soonest(0, 0, 50, 2, 0), 65);
        due("waits", x.soonest(0, 0, 49, 2, 0), 65);
    }

    /** "OPEN" as known at k. */
    private static void asKnown() {
        SkiMountain x = Check.made(PAIR);
        Check.law(x, "shut lift if wind>50;");
        x.later(10);
        x.weather(0, 60, 0);
        x.weather(2, 0, 0);
        x.later(10);
        x.untell(0);
        due("ahead", x.soonest(2, 0, 0, 1, 9), 130);
        due("then", x.soonest(2, 0, 0, 1, 10), 150);
        due("to the last", x.soonest(2, 0, 0, 1, 19), 150);
        due("behind", x.soonest(2, 0, 0, 1, 20), 130);
        due("way then", x.way(2, 0, 0, 1, 0, 10), 0);
        due("last then", x.last(2, 1, 10), 479);
    }

    /** LIFTS with a gate are WAYS as others are. */
    private static void gatesBarNobody() {
        SkiMountain x = Check.made("lift a p0 p1 takes 10 seats 1 from 0 to 480 gate;home p1;");
        due("soonest", x.soonest(0, 0, 0, 1, 0), 10);
        due("way", x.way(0, 0, 0, 1, 0, 0), 0);
        due("last", x.last(0, 0, 0), 479);
    }

    // ---- 13: way

    /** "The n-th of its WAYS (from 0 on); NONE if there is none such." */
    private static void nthWay() {
        SkiMountain x = Check.made("lift a p0 p1 takes 10 seats 1 from 0 to 480;lift b p1 p2 takes 5 seats 1 from 0 to 480;"
            + "run c p2 p3 grade 0 takes 5 snow 0;");
        int[] want = {0, 1, 10};
        for (int n = 0; n < want.length; n++) {
            due("way " + n, x.way(0, 0, 0, 3, n, 0), want[n]);
        }
        for (int n : new int[] {-1, 3, 4, 480, 540, MIN, MAX}) {
            due("way " + n, x.way(0, 0, 0, 3, n, 0), NONE);
        }
        due("one WAY", x.way(0, 2, 0, 3, 0, 0), 10);
        due("no second", x.way(0, 2, 0, 3, 1, 0), NONE);
    }

    /** Where one is already, there are none. */
    private static void noWaysToWhereOneIs() {
        SkiMountain x = Check.made(PAIR);
        due("soonest", x.soonest(3, 0, 150, 0, 0), 150);
        due("no first", x.way(3, 0, 150, 0, 0, 0), NONE);
        due("none below", x.way(3, 0, 150, 0, -1, 0), NONE);
        due("none at 480", x.way(3, 1, 480, 1, 0, 0), NONE);
    }

    /** "at each P the first by number": LIFTS as told, then RUNS. */
    private static void firstByNumber() {
        SkiMountain x = Check.made("run c p0 p1 grade 0 takes 9 snow 0;run d p0 p1 grade 0 takes 9 snow 0;"
            + "lift a p0 p1 takes 9 seats 1 from 10 to 480;lift b p0 p1 takes 9 seats 1 from 20 to 480;");
        due("both RUNS", x.way(0, 0, 9, 1, 0, 0), 10);
        due("a LIFT, too", x.way(0, 0, 10, 1, 0, 0), 0);
        due("all", x.way(0, 0, 20, 1, 0, 0), 0);
        Check.law(x, "shut run if 1=1;");
        due("LIFTS alone", x.way(0, 0, 20, 1, 0, 0), 0);
        Check.mountain(x, "lift a p0 p1 takes 10 seats 1 from 0 to 480;lift b p0 p1 takes 9 seats 1 from 0 to 480;");
        due("not SHUT", Check.law(x, ""), 0);
        due("the faster of two", x.way(0, 0, 20, 1, 0, 0), 1);
    }

    /** WAYS of lower numbers that can't be begun any more, or not by this SKILL, are none of them. */
    private static void thoseThatCantBeBegun() {
        SkiMountain x = Check.made("lift a p0 p1 takes 1 seats 1 from 0 to 50;lift b p0 p3 takes 1 seats 1 from 0 to 50;"
            + "lift c p0 p1 takes 9 seats 1 from 0 to 480;run d p1 p2 grade 3 takes 1 snow 0;"
            + "run e p1 p2 grade 1 takes 8 snow 0;run f p1 p4 grade 3 takes 1 snow 0;");
        due("on duty", x.way(0, 0, 49, 1, 0, 0), 0);
        due("off duty", x.way(0, 0, 50, 1, 0, 0), 2);
        due("too steep", x.way(1, 1, 0, 2, 0, 0), 11);
        due("not too steep", x.way(3, 1, 0, 2, 0, 0), 10);
        due("off duty, then too steep", x.way(1, 0, 50, 2, 0, 0) * 100 + x.way(1, 0, 50, 2, 1, 0), 211);
        due("no third", x.way(1, 0, 50, 2, 2, 0), NONE);
        due("too steep for all", x.way(0, 0, 50, 2, 0, 0), NONE);
        Check.law(x, "shut lift if hour=7 and takes=1;");
        due("LIFTS to nowhere are none of them", x.way(1, 0, 430, 1, 0, 0), 2);
        Check.law(x, "shut run if hour=7 and takes=1;");
        due("SHUT to the end", x.way(3, 1, 420, 2, 0, 0), 11);
        due("not SHUT yet", x.way(3, 1, 419, 2, 0, 0), 10);
    }

    /** "leads there by that MINUTE": just in time, and one MINUTE too late. */
    private static void justInTime() {
        String behind = "lift z p1 p2 takes 1 seats 1 from 20 to 480;lift y p0 p1 takes 5 seats 1 from 0 to 480;";
        SkiMountain x = Check.made("lift a p0 p1 takes 20 seats 1 from 0 to 480;" + behind);
        due("soonest", x.soonest(0, 0, 0, 2, 0), 21);
        due("just in time", x.way(0, 0, 0, 2, 0, 0), 0);
        due("then", x.way(0, 0, 0, 2, 1, 0), 1);
        due("one too late", x.way(0, 0, 1, 2, 0, 0), 2);
        x = Check.made("lift a p0 p1 takes 21 seats 1 from 0 to 480;" + behind);
        due("soonest", x.soonest(0, 0, 0, 2, 0), 21);
        due("too slow by one", x.way(0, 0, 0, 2, 0, 0), 2);
        due("then", x.way(0, 0, 0, 2, 1, 0), 1);
        due("no third", x.way(0, 0, 0, 2, 2, 0), NONE);
    }

    /** "that, begun as soon as it can be": one that is waited for is not begun ahead. */
    private static void begunAsSoonAsItCanBe() {
        SkiMountain x = Check.made("lift a p0 p1 takes 3 seats 1 from 17 to 480;lift b p0 p1 takes 20 seats 1 from 0 to 480;");
        due("soonest", x.soonest(0, 0, 0, 1, 0), 20);
        due("the one waited for", x.way(0, 0, 0, 1, 0, 0), 0);
        x = Check.made("lift a p0 p1 takes 3 seats 1 from 18 to 480;lift b p0 p1 takes 20 seats 1 from 0 to 480;");
        due("soonest", x.soonest(0, 0, 0, 1, 0), 20);
        due("the one begun at once", x.way(0, 0, 0, 1, 0, 0), 1);
    }

    /** A WAY of a lower number that leads back in time is one of them. */
    private static void goingRoundTheWayThere() {
        SkiMountain x = Check.made("lift a p0 p1 takes 1 seats 1 from 0 to 480;lift b p1 p0 takes 1 seats 1 from 0 to 480;"
            + "lift c p0 p2 takes 2 seats 1 from 5 to 480;");
        due("soonest", x.soonest(0, 0, 0, 2, 0), 7);
        int[] want = {0, 1, 0, 1, 2};
        for (int n = 0; n < want.length; n++) {
            due("way " + n, x.way(0, 0, 0, 2, n, 0), want[n]);
        }
        due("way 5", x.way(0, 0, 0, 2, 5, 0), NONE);
        // at 4 he is at p0 again: round once more would be 6, and c begun then ends at 8
        due("from 4", x.way(0, 0, 4, 2, 0, 0), 2);
    }

    // ---- 14: last

    /** "the greatest MINUTE (0 .. 480) from which one can come home": 480 of home. */
    private static void lastOfHome() {
        for (int home = 0; home <= 9; home++) {
            SkiMountain x = Check.made("home p" + home + ";run a p" + home + " p" + (9 - home) + " grade 0 takes 5 snow 0;");
            due("of home", x.last(0, home, 0), 480);
            due("not of the other", x.last(0, 9 - home, 0), NONE);
        }
    }

    /** By a LIFT: the last MINUTE on duty. */
    private static void lastOfDuty() {
        SkiMountain x = Check.made("lift a p1 p0 takes 30 seats 1 from 100 to 200;lift b p2 p0 takes 30 seats 1 from 0 to 480;"
            + "lift c p3 p0 takes 1 seats 1 from 0 to 1;");
        due("to 200", x.last(0, 1, 0), 199);
        due("to 480", x.last(0, 2, 0), 479);
        due("to 1", x.last(0, 3, 0), 0);
        due("it is so", x.soonest(0, 1, 199, 0, 0), 229);
        due("not later", x.soonest(0, 1, 200, 0, 0), NONE);
    }

    /** By a RUN: 479, however long it takes. */
    private static void lastOfRuns() {
        SkiMountain x = Check.made("run a p1 p0 grade 0 takes 1 snow 0;run b p2 p0 grade 3 takes 60 snow 0;");
        due("1", x.last(0, 1, 0), 479);
        due("60", x.last(3, 2, 0), 479);
        due("too steep", x.last(2, 2, 0), NONE);
    }

    /** By WAYS one behind the other: the last must not come too late for the next. */
    private static void lastOfARow() {
        SkiMountain x = Check.made("run a p2 p1 grade 0 takes 8 snow 0;lift b p1 p0 takes 5 seats 1 from 50 to 100;"
            + "run c p3 p2 grade 1 takes 60 snow 0;");
        due("of p1", x.last(0, 1, 0), 99);
        due("of p2", x.last(0, 2, 0), 91);
        due("faster by 2", x.last(1, 2, 0), 93);
        due("of p3", x.last(1, 3, 0), 33);
        due("of p3 faster", x.last(3, 3, 0), 99 - 2 - 30);
        due("it is so", x.soonest(3, 3, 67, 0, 0), 104);
        due("not later", x.soonest(3, 3, 68, 0, 0), NONE);
        x = Check.made("lift a p2 p1 takes 8 seats 1 from 43 to 480;lift b p1 p0 takes 5 seats 1 from 50 to 51;");
        due("never in time", x.last(0, 2, 0), NONE);
        x = Check.made("lift a p2 p1 takes 8 seats 1 from 42 to 480;lift b p1 p0 takes 5 seats 1 from 50 to 51;");
        due("once in time", x.last(0, 2, 0), 42);
    }

    /** By HOURS in which a WAY is SHUT. */
    private static void lastByHours() {
        SkiMountain x = Check.made("lift a p1 p0 takes 5 seats 1 from 30 to 450;run b p2 p0 grade 0 takes 5 snow 0;");
        for (int hour = 1; hour <= 7; hour++) {
            Check.law(x, "shut lift if hour>" + (hour - 1) + ";shut run if hour>" + (hour - 1) + ";");
            due("LIFT up to HOUR " + hour, x.last(0, 1, 0), 60 * hour - 1);
            due("RUN up to HOUR " + hour, x.last(0, 2, 0), 60 * hour - 1);
        }
        Check.law(x, "shut lift if not hour=0;shut run if hour<7;");
        due("LIFT in HOUR 0", x.last(0, 1, 0), 59);
        due("RUN in HOUR 7", x.last(0, 2, 0), 479);
        Check.law(x, "shut lift if 1=1;shut run if 1=1;");
        due("no LIFT", x.last(0, 1, 0), NONE);
        due("no RUN", x.last(0, 2, 0), NONE);
        Check.law(x, "shut lift if wind=0;");
        x.later(1);
        x.weather(3, 5, 0);
        due("as known ahead", x.last(0, 1, 0), NONE);
        due("as known then", x.last(0, 1, 1), 449);
    }

    /** 0 can be the last MINUTE; ahead of it there is none. */
    private static void lastAtZero() {
        SkiMountain x = Check.made("lift a p2 p1 takes 8 seats 1 from 0 to 1;lift b p1 p0 takes 5 seats 1 from 8 to 9;");
        due("0", x.last(0, 2, 0), 0);
        due("8", x.last(0, 1, 0), 8);
        x = Check.made("run a p2 p1 grade 0 takes 9 snow 0;lift b p1 p0 takes 5 seats 1 from 8 to 9;");
        due("it would be -1", x.last(0, 2, 0), NONE);
        x = Check.made("run a p2 p1 grade 0 takes 8 snow 0;lift b p1 p0 takes 5 seats 1 from 8 to 9;");
        due("a RUN at 0", x.last(0, 2, 0), 0);
    }

    /** "NONE if there is none, or one can't be." */
    private static void lastAsked() {
        SkiMountain x = Check.made(PAIR);
        due("home", x.last(0, 0, 0), 480);
        due("none", x.last(0, 1, 0), NONE);
        due("nothing there", x.last(3, 9, 0), NONE);
        due("SKILL 4", x.last(4, 0, 0), NONE);
        due("P 10", x.last(0, 10, 0), NONE);
        due("P -1", x.last(0, -1, 0), NONE);
    }

    // ---- empty and full

    private static void emptyMountain() {
        SkiMountain x = new SkiMountain();
        due("there", x.soonest(0, 4, 480, 4, MIN), 480);
        due("no way", x.soonest(0, 0, 0, 1, 0), NONE);
        due("no WAYS", x.way(0, 0, 0, 1, 0, 0), NONE);
        due("last of p0", x.last(3, 0, MAX), 480);
        due("last of p9", x.last(3, 9, 0), NONE);
    }

    /** All 6 LIFTS and 7 RUNS in one row, over all that is on the way. */
    private static void fullMountain() {
        StringBuilder b = new StringBuilder();
        for (int n = 0; n < 6; n++) {
            b.append("lift l").append((char) ('a' + n)).append(" p").append(5 - n).append(" p").append(6 - n)
                .append(" takes 30 seats 1 from 0 to 480;");
        }
        for (int n = 0; n < 7; n++) {
            b.append("run r").append((char) ('a' + n)).append(" p").append(6 - n % 7).append(" p").append(n == 6 ? 9 : 5 - n)
                .append(" grade 0 takes 60 snow 0;");
        }
        SkiMountain x = Check.made(b.append("home p9;").toString());
        due("up", x.soonest(0, 0, 0, 6, 0), 180);
        for (int n = 0; n < 6; n++) {
            due("LIFT " + n, x.way(0, 0, 0, 6, n, 0), 5 - n);
        }
        due("down", x.soonest(0, 6, 0, 9, 0), 420);
        for (int n = 0; n < 7; n++) {
            due("RUN " + n, x.way(0, 6, 0, 9, n, 0), 10 + n);
        }
        due("too late", x.soonest(0, 6, 120, 9, 0), NONE);
        due("just in time", x.soonest(0, 6, 119, 9, 0), 539);
        due("last", x.last(0, 6, 0), 119);
        due("last faster", x.last(3, 6, 0), 479 - 90);
    }
}
