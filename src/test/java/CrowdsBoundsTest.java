/** The boundaries of CROWDS and of the day that is run: a test for each sentence that names one. */
public final class CrowdsBoundsTest {
    private static final int NONE = SkiMountain.NONE;
    private static final int MIN = Integer.MIN_VALUE;
    private static final int MAX = Integer.MAX_VALUE;

    private CrowdsBoundsTest() {
    }

    public static void main(String[] args) {
        arrivalMinutes();
        arrivalSizes();
        twentyArrivals();
        arrivalsOfOneMinute();
        sixTurns();
        turnsOfEachPlace();
        turnOfNoWay();
        makersOfARun();
        makersOfNoRun();
        makersLastTold();
        howManyAreHome();
        homeQueuedOrNot();
        homeThatIsTold();
        freshAsAnHourBegins();
        freshAheadOfTheTurns();
        makersIfWindIsBelow30();
        makersAheadOfTheTurns();
        snowAtFirst();
        arrivalsComeThen();
        waysEndAndTheyCome();
        theLastMinuteOfTheDay();
        undecidedTakeTurnsAgain();
        noTurns();
        nextOfTheRowForEver();
        eachDayFromTheFirstOn();
        rowsOfOtherPlaces();
        rowStandsWhileNoneCanBeTaken();
        leftOutForThisTime();
        leftOutOfWholeRounds();
        leftOutOfRoundsOfFour();
        notShut();
        tenMillimetres();
        oneMillimetreLess();
        onDutyNowOrLater();
        queuedAheadOfDuty();
        runsTakeTheirFullMinutes();
        gradesBarNobody();
        gatesBarNobody();
        asManyAsSeats();
        asAreQueued();
        liftsThatAreShutTakeNobody();
        offDutyBehindThisMinute();
        shutAsItGoesOffDuty();
        undecidedFromNowOn();
        longestBehindAMinute();
        longestBehindAllOfThat();
        longestOfRuns();
        waitAsked();
        queuedForAllItsLifts();
        snowAsked();
        tookAsked();
        ofTheDayRunLast();
        oneDayAsTheOther();
        asKnownAtK();
        dayWithoutAnything();
        fullDay();
        Check.close();
    }

    private static void due(String call, long got, long want) {
        Check.due(call, got, want);
    }

    private static void due(String call, boolean got, boolean want) {
        Check.due(call, got, want);
    }

    private static String lift(String name, int takes, int seats, int from, int to) {
        return "lift " + name + " p0 p1 takes " + takes + " seats " + seats + " from " + from + " to " + to + ";";
    }

    private static String run(String ends, int takes, int snow) {
        return "run r" + ends.replace("p", "").replace(" ", "").replace('0', 'a').replace('1', 'b').replace('2', 'c')
            .replace('3', 'd').replace('4', 'e') + " " + ends + " grade 0 takes " + takes + " snow " + snow + ";";
    }

    // ---- 22: arrive

    /** "ARRIVALS: MINUTES (0 .. 479)". */
    private static void arrivalMinutes() {
        for (int minute : new int[] {0, 1, 478, 479}) {
            SkiMountain x = new SkiMountain();
            due("at " + minute, x.arrive(minute, 5), 1);
            due("all are there", x.day(0), 5);
            due("then", x.wait(0, minute, 0), 5);
            due("not ahead of it", x.wait(0, minute - 1, 0), minute == 0 ? NONE : 0);
        }
        for (int minute : new int[] {-1, 480, 481, 540, MIN, MAX}) {
            SkiMountain x = new SkiMountain();
            due("at " + minute, x.arrive(minute, 5), NONE);
            due("none told", x.about(6), 0);
            due("nobody is there", x.day(0), 0);
        }
    }

    /** "and how many come home then (1 .. 500)". */
    private static void arrivalSizes() {
        for (int many : new int[] {1, 2, 499, 500}) {
            SkiMountain x = new SkiMountain();
            due(many + " come", x.arrive(7, many), 1);
            due("all are there", x.day(0), many);
        }
        for (int many : new int[] {0, -1, 501, 502, MIN, MAX}) {
            SkiMountain x = new SkiMountain();
            due(many + " come", x.arrive(7, many), NONE);
            due("none told", x.about(6), 0);
            due("nobody is there", x.day(0), 0);
        }
    }

    /** "ARRIVALS, 20 at most"; "NONE, doing nothing, if .. there are 20." */
    private static void twentyArrivals() {
        SkiMountain x = new SkiMountain();
        for (int n = 1; n <= 20; n++) {
            due("telling " + n, x.arrive(n, n), n);
            due("how many", x.about(6), n);
        }
        due("the 21st", x.arrive(0, 500), NONE);
        due("20", x.about(6), 20);
        due("all but the 21st", x.day(0), 210);
        due("nobody at 0", x.wait(0, 0, 0), 0);
        due("another MOUNTAIN", Check.mountain(x, "home p1;"), 1);
        due("20 still", x.arrive(0, 1), NONE);
    }

    /** Those of one MINUTE come together. */
    private static void arrivalsOfOneMinute() {
        SkiMountain x = new SkiMountain();
        x.arrive(9, 500);
        x.arrive(9, 500);
        x.arrive(9, 1);
        due("all", x.day(0), 1001);
        due("at 8", x.wait(0, 8, 0), 0);
        due("at 9", x.wait(0, 9, 0), 1001);
    }

    // ---- 23: turn

    /** "a row of up to 6 WAYS"; "how many there are; NONE, doing nothing, if .. there are 6." */
    private static void sixTurns() {
        SkiMountain x = Check.made(run("p0 p1", 9, 300) + run("p0 p2", 9, 300));
        for (int n = 1; n <= 5; n++) {
            due("turn " + n, x.turn(10), n);
        }
        due("turn 6", x.turn(11), 6);
        due("a 7th", x.turn(11), NONE);
        due("a 7th of another", x.turn(10), NONE);
        x.arrive(0, 12);
        x.day(0);
        due("ten by the first", x.took(10, 0), 10);
        due("two by the sixth", x.took(11, 0), 2);
    }

    /** "TURNS of a P": "of the P where it begins". */
    private static void turnsOfEachPlace() {
        SkiMountain x = Check.made(run("p0 p1", 9, 300) + run("p1 p2", 9, 300) + lift("a", 5, 1, 0, 480));
        for (int n = 1; n <= 6; n++) {
            due("of p0: " + n, x.turn(n % 2 == 0 ? 10 : 0), n);
        }
        due("p0 is full", x.turn(10), NONE);
        for (int n = 1; n <= 6; n++) {
            due("of p1: " + n, x.turn(11), n);
        }
        due("p1 is full", x.turn(11), NONE);
        due("p0 still", x.turn(0), NONE);
    }

    /** "if there is no such WAY". */
    private static void turnOfNoWay() {
        SkiMountain x = Check.made(run("p0 p1", 9, 300) + lift("a", 5, 1, 0, 480));
        for (int way : new int[] {-1, 1, 5, 6, 9, 11, 16, 17, MIN, MAX}) {
            due("turn " + way, x.turn(way), NONE);
        }
        due("the first", x.turn(0), 1);
        due("the second", x.turn(10), 2);
    }

    // ---- 24: make

    /** "MAKERS (mm a MINUTE, 0 .. 20 for each RUN, 0 at first)". */
    private static void makersOfARun() {
        for (int mm : new int[] {0, 1, 19, 20}) {
            SkiMountain x = Check.made(run("p0 p1", 9, 0));
            x.day(0);
            due("0 at first", x.snow(0, 479), 0);
            due("make " + mm, x.make(0, mm), true);
            x.day(0);
            due("in each MINUTE", x.snow(0, 0), mm);
            due("to the last", x.snow(0, 479), 480 * mm);
        }
        for (int mm : new int[] {-1, 21, 22, MIN, MAX}) {
            SkiMountain x = Check.made(run("p0 p1", 9, 0));
            due("make 7", x.make(0, 7), true);
            due("make " + mm, x.make(0, mm), false);
            x.day(0);
            due("7 stay", x.snow(0, 0), 7);
        }
    }

    /** "MAKERS of a RUN (by its own number)"; "false, doing nothing, if one can't be." */
    private static void makersOfNoRun() {
        SkiMountain none = Check.made(lift("a", 5, 1, 0, 480));
        due("no RUNS", none.make(0, 0), false);
        SkiMountain x = Check.made(run("p0 p1", 9, 0) + run("p0 p2", 9, 0));
        for (int run : new int[] {-1, 2, 6, 7, 10, 11, MIN, MAX}) {
            due("RUN " + run, x.make(run, 5), false);
        }
        due("RUN 1", x.make(1, 5), true);
        x.day(0);
        due("no snow on RUN 0", x.snow(0, 479), 0);
        due("snow on RUN 1", x.snow(1, 479), 2400);
        StringBuilder b = new StringBuilder();
        for (int n = 0; n < 7; n++) {
            b.append("run r").append((char) ('a' + n)).append(" p0 p1 grade 0 takes 9 snow 0;");
        }
        SkiMountain seven = Check.made(b.toString());
        due("RUN 6", seven.make(6, 20), true);
        due("RUN 7", seven.make(7, 20), false);
        seven.day(0);
        due("snow on RUN 6", seven.snow(6, 0), 20);
        due("none on RUN 5", seven.snow(5, 479), 0);
    }

    /** What is told last holds; a day that was run stays as it was. */
    private static void makersLastTold() {
        SkiMountain x = Check.made(run("p0 p1", 9, 0));
        x.make(0, 20);
        x.make(0, 3);
        x.day(0);
        due("3", x.snow(0, 9), 30);
        x.make(0, 0);
        due("as it was run", x.snow(0, 9), 30);
        x.day(0);
        due("0", x.snow(0, 9), 0);
    }

    // ---- 25: day

    /** "how many are home behind the last MINUTE". */
    private static void howManyAreHome() {
        SkiMountain x = Check.made(lift("a", 5, 3, 0, 479) + run("p1 p0", 4, 300));
        x.turn(0);
        x.arrive(470, 9);
        due("all nine are up", x.day(0), 0);
        due("three at a time", x.wait(0, 470, 1), 6);
        x.turn(10);
        due("those who began at 470 come home at 479, the others behind it", x.day(0), 3);
        due("not at 478", x.wait(0, 478, 0), 0);
        due("nine got on", x.took(0, 0), 9);
        due("nine began the RUN", x.took(10, 0), 9);
    }

    /** "(undecided or not, at the P that is home)". */
    private static void homeQueuedOrNot() {
        SkiMountain x = Check.made(lift("a", 5, 3, 479, 480) + lift("b", 5, 3, 0, 1));
        x.arrive(5, 20);
        due("undecided", x.day(0), 20);
        due("all", x.wait(0, 479, 0), 20);
        x.turn(0);
        due("queued to the end, then undecided", x.day(0), 17);
        due("queued", x.wait(0, 478, 1), 20);
        due("undecided", x.wait(0, 479, 0), 17);
        due("none queued", x.wait(0, 479, 1), 0);
        SkiMountain y = Check.made("lift a p0 p1 takes 5 seats 3 from 0 to 480;run r p0 p1 grade 0 takes 9 snow 1;");
        y.turn(10);
        y.arrive(479, 7);
        due("one is gone", y.day(0), 6);
    }

    /** The P that is home, not p0. */
    private static void homeThatIsTold() {
        SkiMountain x = Check.made("run r p4 p7 grade 0 takes 9 snow 300;home p4;");
        x.arrive(0, 6);
        due("home", x.day(0), 6);
        due("at p4", x.wait(4, 0, 0), 6);
        due("not at p0", x.wait(0, 0, 0), 0);
        x.turn(10);
        due("nobody home", x.day(0), 0);
        due("at p7", x.wait(7, 479, 0), 6);
        due("told again with another home", Check.mountain(x, "run r p4 p7 grade 0 takes 9 snow 300;home p7;"), 2);
        due("they come there", x.day(0), 6);
        due("at p7 at once", x.wait(7, 0, 0), 6);
    }

    // ---- (a)

    /** "as an HOUR begins its fresh falls: 10 mm a cm on each RUN". */
    private static void freshAsAnHourBegins() {
        SkiMountain x = Check.made(run("p0 p1", 9, 1) + run("p0 p2", 9, 300));
        int[] fresh = {1, 40, 0, 2, 3, 4, 5, 6};
        for (int hour = 0; hour < 8; hour++) {
            x.weather(hour, 99, fresh[hour]);
        }
        x.day(0);
        int fallen = 0;
        for (int hour = 0; hour < 8; hour++) {
            due("ahead of HOUR " + hour, x.snow(0, 60 * hour - 1), hour == 0 ? NONE : 10 + fallen);
            fallen += 10 * fresh[hour];
            due("as HOUR " + hour + " begins", x.snow(0, 60 * hour), 10 + fallen);
            due("on the other", x.snow(1, 60 * hour), 3000 + fallen);
            due("once", x.snow(0, 60 * hour + 1), 10 + fallen);
            due("to its end", x.snow(0, 60 * hour + 59), 10 + fallen);
        }
    }

    /** (a) is ahead of (c): what falls in a MINUTE bears those who begin in it. */
    private static void freshAheadOfTheTurns() {
        SkiMountain x = Check.made(run("p0 p1", 9, 0));
        x.weather(2, 0, 1);
        x.turn(10);
        x.arrive(0, 3);
        due("one begins", x.day(0), 2);
        due("not ahead", x.wait(0, 119, 0), 3);
        due("as it falls", x.wait(0, 120, 0), 2);
        due("and is worn", x.snow(0, 120), 9);
    }

    /** "MAKERS add to theirs if wind is below 30." */
    private static void makersIfWindIsBelow30() {
        SkiMountain x = Check.made(run("p0 p1", 9, 0));
        x.make(0, 20);
        x.weather(0, 29, 0);
        x.weather(1, 30, 0);
        x.weather(3, 0, 0);
        x.weather(4, 99, 0);
        x.weather(7, 29, 0);
        x.day(0);
        int[] minutes = {0, 58, 59, 60, 61, 119, 120, 179, 180, 239, 240, 419, 420, 479};
        int[] times = {1, 59, 60, 60, 60, 60, 60, 60, 61, 120, 120, 120, 121, 180};
        for (int n = 0; n < minutes.length; n++) {
            due("behind " + minutes[n], x.snow(0, minutes[n]), 20 * times[n]);
        }
    }

    /** What is made in a MINUTE bears those who begin in it. */
    private static void makersAheadOfTheTurns() {
        SkiMountain x = Check.made(run("p0 p1", 9, 0));
        x.make(0, 5);
        x.turn(10);
        x.arrive(0, 4);
        x.day(0);
        due("5 mm: nobody", x.wait(0, 0, 0), 4);
        due("10 mm: one", x.wait(0, 1, 0), 3);
        due("9 mm are left", x.snow(0, 1), 9);
        due("14 mm: all", x.wait(0, 2, 0), 0);
        due("11 mm are left", x.snow(0, 2), 11);
    }

    /** "(RUNS begin with their snow, 10 mm a cm.)" */
    private static void snowAtFirst() {
        for (int snow : new int[] {0, 1, 299, 300}) {
            SkiMountain x = Check.made(run("p0 p1", 9, snow));
            x.day(0);
            due("at 0", x.snow(0, 0), 10 * snow);
            due("at 479", x.snow(0, 479), 10 * snow);
            x.day(0);
            due("in another day as well", x.snow(0, 479), 10 * snow);
        }
    }

    // ---- (b)

    /** "ARRIVALS" come and take TURNS in their MINUTE. */
    private static void arrivalsComeThen() {
        SkiMountain x = Check.made(lift("a", 5, 1, 0, 480));
        x.turn(0);
        x.arrive(100, 2);
        x.day(0);
        due("nobody ahead", x.wait(0, 99, 0) + x.wait(0, 99, 1), 0);
        due("one got on, one queued", x.wait(0, 100, 1), 1);
        due("both got on", x.wait(0, 101, 1), 0);
        due("took", x.took(0, 0), 2);
    }

    /** "those whose WAY ends now come to its P": a LIFT behind its minutes, a RUN behind its own. */
    private static void waysEndAndTheyCome() {
        SkiMountain x = Check.made(lift("a", 5, 9, 0, 480) + run("p1 p2", 60, 300));
        x.turn(0);
        x.arrive(10, 3);
        x.day(0);
        due("not at 14", x.wait(1, 14, 0), 0);
        due("at 15", x.wait(1, 15, 0), 3);
        x.turn(10);
        x.day(0);
        due("they go on at once", x.wait(1, 15, 0), 0);
        due("snow is worn at 15", x.snow(0, 14) * 10000 + x.snow(0, 15), 30002997);
        due("not at 74", x.wait(2, 74, 0), 0);
        due("at 75", x.wait(2, 75, 0), 3);
    }

    /** "In each MINUTE from 0 to 479": what ends at 479 has come, at 480 not. */
    private static void theLastMinuteOfTheDay() {
        SkiMountain x = Check.made(lift("a", 5, 9, 0, 480));
        x.turn(0);
        x.arrive(474, 1);
        x.arrive(475, 2);
        x.arrive(479, 4);
        due("nobody home", x.day(0), 0);
        due("one is up", x.wait(1, 479, 0), 1);
        due("not ahead", x.wait(1, 478, 0), 0);
        due("all got on", x.took(0, 0), 7);
    }

    // ---- (c)

    /** "those who wait there undecided and those who came take TURNS": again in each MINUTE. */
    private static void undecidedTakeTurnsAgain() {
        SkiMountain x = Check.made(run("p0 p1", 9, 300));
        Check.law(x, "shut run if hour=0;");
        x.turn(10);
        x.arrive(5, 3);
        x.arrive(60, 2);
        due("all gone", x.day(0), 0);
        due("undecided to 59", x.wait(0, 59, 0), 3);
        due("gone at 60", x.wait(0, 60, 0), 0);
        due("all five", x.took(10, 0), 5);
    }

    /** "With no TURNS, or if no WAY of them can be taken, all wait undecided." */
    private static void noTurns() {
        SkiMountain x = Check.made(lift("a", 5, 9, 0, 1) + run("p0 p1", 9, 0) + run("p0 p2", 9, 300));
        x.arrive(1, 500);
        due("no TURNS", x.day(0), 500);
        x.turn(0);
        x.turn(10);
        due("none can be taken", x.day(0), 500);
        due("undecided", x.wait(0, 1, 0), 500);
        due("to the end", x.wait(0, 479, 0), 500);
        due("nobody took", x.took(0, 0) + x.took(10, 0), 0);
        x.turn(11);
        due("one can be", x.day(0), 0);
        due("all by it", x.took(11, 0), 500);
    }

    /** "one behind the other for ever": each takes the next, over MINUTES and rounds. */
    private static void nextOfTheRowForEver() {
        SkiMountain x = Check.made(run("p0 p1", 9, 300) + run("p0 p2", 9, 300) + run("p0 p3", 9, 300));
        x.turn(10);
        x.turn(11);
        x.turn(10);
        x.turn(12);
        x.arrive(0, 1);
        x.arrive(1, 1);
        x.arrive(2, 1);
        x.arrive(3, 1);
        x.arrive(4, 1);
        x.arrive(5, 7);
        x.day(0);
        int[] first = {1, 1, 2, 2, 3, 6};
        int[] second = {0, 1, 1, 1, 1, 3};
        int[] third = {0, 0, 0, 1, 1, 3};
        for (int minute = 0; minute <= 5; minute++) {
            due("10 up to " + minute, 3000 - x.snow(0, minute), first[minute]);
            due("11 up to " + minute, 3000 - x.snow(1, minute), second[minute]);
            due("12 up to " + minute, 3000 - x.snow(2, minute), third[minute]);
        }
        due("all", x.took(10, 0) + x.took(11, 0) + x.took(12, 0), 12);
    }

    /** TURNS begin with the first of the row in each day, wherever the day ahead ended in it. */
    private static void eachDayFromTheFirstOn() {
        SkiMountain x = Check.made(run("p0 p1", 9, 300) + run("p0 p2", 9, 300) + run("p0 p3", 9, 300));
        x.turn(10);
        x.turn(11);
        x.turn(12);
        x.arrive(7, 4);
        for (int day = 0; day < 4; day++) {
            x.day(0);
            due("two by the first in day " + day, x.took(10, 0), 2);
            due("one by the second in day " + day, x.took(11, 0), 1);
            due("one by the third in day " + day, x.took(12, 0), 1);
        }
    }

    /** Each P has a row of its own, p0 no other than p9. */
    private static void rowsOfOtherPlaces() {
        for (int home = 0; home <= 9; home++) {
            int there = (home + 4) % 10;
            int end = (home + 7) % 10;
            SkiMountain x = Check.made("run a p" + home + " p" + there + " grade 0 takes 1 snow 300;"
                + "run b p" + home + " p" + end + " grade 0 takes 1 snow 300;"
                + "run c p" + there + " p" + end + " grade 0 takes 1 snow 2;"
                + "run d p" + there + " p" + (end + 1) % 10 + " grade 0 takes 1 snow 300;home p" + home + ";");
            x.turn(10);
            x.turn(11);
            x.turn(10);
            x.turn(12);
            x.turn(13);
            for (int minute = 0; minute < 5; minute++) {
                x.arrive(minute, 1);
            }
            x.arrive(100, 60);
            due("all are gone from p" + home, x.day(0), 0);
            due("a to 4", 3000 - x.snow(0, 4), 3);
            due("b to 4", 3000 - x.snow(1, 4), 2);
            due("a", x.took(10, 0), 43);
            due("b", x.took(11, 0), 22);
            due("c by turns, to its last snow", x.took(12, 0), 11);
            due("d has the others", x.took(13, 0), 32);
            due("none wait there", x.wait(there, 479, 0), 0);
            due("all of b and c at the end", x.wait(end, 479, 0), 33);
        }
    }

    /** "if no WAY of them can be taken, all wait": the row does not go on, nor begin anew. */
    private static void rowStandsWhileNoneCanBeTaken() {
        for (int before = 0; before <= 6; before++) {
            for (int many = 1; many <= 4; many++) {
                SkiMountain x = Check.made(run("p0 p1", 9, 300) + run("p0 p2", 9, 300) + run("p0 p3", 9, 300));
                Check.law(x, "shut run if hour=1;");
                for (int way = 10; way <= 12; way++) {
                    x.turn(way);
                }
                if (before > 0) {
                    x.arrive(5, before);
                }
                x.arrive(70, many);
                x.day(0);
                due("all wait in HOUR 1", x.wait(0, 119, 0), many);
                due("none behind it", x.wait(0, 120, 0), 0);
                for (int run = 0; run < 3; run++) {
                    int want = (before + many + 2 - run) / 3;
                    due(before + " and " + many + ": RUN " + run, x.took(10 + run, 0), want);
                    due(before + ": RUN " + run + " to 119", 3000 - x.snow(run, 119), (before + 2 - run) / 3);
                }
            }
        }
    }

    /** "leaving others out for this time": the row goes on behind the one taken. */
    private static void leftOutForThisTime() {
        SkiMountain x = Check.made(run("p0 p1", 9, 300) + run("p0 p2", 9, 0) + run("p0 p3", 9, 300));
        x.weather(1, 0, 40);
        x.turn(10);
        x.turn(11);
        x.turn(12);
        x.arrive(0, 1);
        x.arrive(1, 1);
        x.arrive(2, 1);
        x.arrive(60, 2);
        x.day(0);
        due("10 at 0", x.snow(0, 0), 2999);
        due("11 left out at 1: 12", x.snow(2, 1), 2999);
        due("10 at 2", x.snow(0, 2), 2998);
        due("11 not left out at 60", x.snow(1, 60), 399);
        due("12 behind it", x.snow(2, 60), 3398);
        due("10 not at 60", x.snow(0, 60), 3398);
    }

    /**
     * The same, when many take TURNS in one MINUTE, so that the row is gone through in whole rounds:
     * it goes on behind the last that was taken, even if what comes there was left out before.
     */
    private static void leftOutOfWholeRounds() {
        for (int out = 0; out < 3; out++) {
            for (int first = 0; first <= 2; first++) {
                for (int many = 1; many <= 9; many++) {
                    SkiMountain x = threeRuns(out);
                    for (int n = 0; n < first; n++) {
                        x.arrive(n, 1);
                    }
                    x.arrive(59, many);
                    x.arrive(60, 1);
                    x.day(0);
                    int[] took = new int[3];
                    int next = 0;
                    for (int n = 0; n < first + many; n++) {
                        next = next == out ? (next + 1) % 3 : next;
                        took[next]++;
                        next = (next + 1) % 3;
                    }
                    took[next]++;
                    for (int run = 0; run < 3; run++) {
                        due(first + " and " + many + " without " + out + ": RUN " + run, x.took(10 + run, 0), took[run]);
                    }
                }
            }
        }
    }

    /** TURNS of three RUNS; one of them has snow from HOUR 1 on alone. */
    private static SkiMountain threeRuns(int bare) {
        SkiMountain x = Check.made(run("p0 p1", 9, bare == 0 ? 0 : 300) + run("p0 p2", 9, bare == 1 ? 0 : 300)
            + run("p0 p3", 9, bare == 2 ? 0 : 300));
        x.weather(1, 0, 40);
        x.turn(10);
        x.turn(11);
        x.turn(12);
        return x;
    }

    /** A row of four with two left out, those beside one another, and those not. */
    private static void leftOutOfRoundsOfFour() {
        for (int bare = 0; bare < 15; bare++) {
            StringBuilder b = new StringBuilder();
            for (int run = 0; run < 4; run++) {
                b.append(run("p0 p" + (run + 1), 9, (bare >> run & 1) != 0 ? 0 : 300));
            }
            for (int many = 1; many <= 9; many++) {
                SkiMountain x = Check.made(b.toString());
                x.weather(1, 0, 40);
                for (int run = 0; run < 4; run++) {
                    x.turn(10 + run);
                }
                x.arrive(59, many);
                x.arrive(60, 1);
                x.day(0);
                int[] took = new int[4];
                int next = 0;
                for (int n = 0; n < many; n++) {
                    while ((bare >> next & 1) != 0) {
                        next = (next + 1) % 4;
                    }
                    took[next]++;
                    next = (next + 1) % 4;
                }
                took[next]++;
                for (int run = 0; run < 4; run++) {
                    due(many + " without " + bare + ": RUN " + run, x.took(10 + run, 0), took[run]);
                }
            }
        }
    }

    /** "the next WAY of the row that is not SHUT": by the MINUTE's HOUR. */
    private static void notShut() {
        SkiMountain x = Check.made(lift("a", 5, 99, 0, 480) + run("p0 p2", 9, 300));
        Check.law(x, "shut lift if hour=1;shut run if hour=2;");
        x.turn(0);
        x.turn(10);
        x.arrive(59, 4);
        x.arrive(60, 4);
        x.arrive(119, 4);
        x.arrive(120, 4);
        x.arrive(179, 4);
        x.arrive(180, 4);
        x.day(0);
        due("RUN at 59", x.snow(0, 59), 2998);
        due("RUN at 60", x.snow(0, 60), 2994);
        due("RUN at 119", x.snow(0, 119), 2990);
        due("RUN at 120", x.snow(0, 120), 2990);
        due("RUN at 179", x.snow(0, 179), 2990);
        due("RUN at 180", x.snow(0, 180), 2988);
        due("LIFT", x.took(0, 0), 12);
    }

    /** "if it is a RUN has 10 mm of snow at least". */
    private static void tenMillimetres() {
        int[] cm = {0, 1, 2, 3};
        int[] gone = {0, 1, 11, 21};
        for (int n = 0; n < cm.length; n++) {
            SkiMountain x = Check.made(run("p0 p1", 9, cm[n]));
            x.turn(10);
            x.arrive(0, 50);
            due(cm[n] + " cm", x.day(0), 50 - gone[n]);
            due("took", x.took(10, 0), gone[n]);
            due("left", x.snow(0, 0), 10 * cm[n] - gone[n]);
            due("in one MINUTE", x.wait(0, 0, 0), 50 - gone[n]);
        }
        SkiMountain made = Check.made(run("p0 p1", 60, 0));
        made.make(0, 9);
        made.turn(10);
        made.arrive(0, 1);
        made.day(0);
        due("9 mm", made.wait(0, 0, 0), 1);
        due("18 mm", made.wait(0, 1, 0), 0);
    }

    /** "its snow is 1 mm less", for each who begins, once. */
    private static void oneMillimetreLess() {
        SkiMountain x = Check.made(run("p0 p1", 60, 300) + run("p1 p2", 9, 300));
        x.turn(10);
        x.arrive(0, 1);
        x.arrive(1, 500);
        x.arrive(1, 499);
        x.day(0);
        due("one", x.snow(0, 0), 2999);
        due("1000", x.snow(0, 1), 2000);
        due("not as they end", x.snow(0, 61), 2000);
        due("not of others", x.snow(1, 479), 3000);
    }

    /** "if it is a LIFT is on duty now or later": the last MINUTE, and the first behind it. */
    private static void onDutyNowOrLater() {
        SkiMountain x = Check.made(lift("a", 5, 99, 50, 60));
        x.turn(0);
        x.arrive(0, 1);
        x.arrive(59, 2);
        x.arrive(60, 4);
        due("those of 60 stay", x.day(0), 4);
        due("queued from 0 on", x.wait(0, 0, 1), 1);
        due("undecided none", x.wait(0, 0, 0), 0);
        due("those of 59 got on", x.took(0, 0), 3);
        due("undecided at 60", x.wait(0, 60, 0), 4);
        due("none queued at 60", x.wait(0, 60, 1), 0);
    }

    /** "a LIFT is queued for": all wait in the queue till it is on duty. */
    private static void queuedAheadOfDuty() {
        SkiMountain x = Check.made(lift("a", 5, 2, 50, 480));
        x.turn(0);
        x.arrive(0, 5);
        x.day(0);
        due("ahead", x.wait(0, 49, 1), 5);
        due("from 50 on", x.wait(0, 50, 1), 3);
        due("nobody up at 54", x.wait(1, 54, 0), 0);
        due("two at 55", x.wait(1, 55, 0), 2);
        due("all at 57", x.wait(1, 57, 0), 5);
    }

    /** "(all have the RUN's full minutes)". */
    private static void runsTakeTheirFullMinutes() {
        for (int takes : new int[] {1, 60}) {
            SkiMountain x = Check.made("run r p0 p1 grade 0 takes " + takes + " snow 300;");
            x.skier(3);
            x.turn(10);
            x.arrive(7, 2);
            x.day(0);
            due("ahead", x.wait(1, 7 + takes - 1, 0), 0);
            due("then", x.wait(1, 7 + takes, 0), 2);
        }
    }

    /** A RUN's grade bars nobody in a crowd. */
    private static void gradesBarNobody() {
        SkiMountain x = Check.made("run r p0 p1 grade 3 takes 9 snow 300;");
        x.turn(10);
        x.arrive(0, 3);
        due("all gone", x.day(0), 0);
        due("took", x.took(10, 0), 3);
    }

    /** A gate bars nobody in a crowd. */
    private static void gatesBarNobody() {
        SkiMountain x = Check.made("lift a p0 p1 takes 5 seats 3 from 0 to 480 gate;");
        x.turn(0);
        x.arrive(0, 3);
        due("all gone", x.day(0), 0);
        due("took", x.took(0, 0), 3);
    }

    // ---- (d)

    /** "as many as seats .. get on". */
    private static void asManyAsSeats() {
        for (int seats : new int[] {1, 2, 99}) {
            SkiMountain x = Check.made(lift("a", 5, seats, 0, 480));
            x.turn(0);
            x.arrive(0, 2 * seats + 1);
            x.day(0);
            due("first", x.wait(0, 0, 1), seats + 1);
            due("second", x.wait(0, 1, 1), 1);
            due("third", x.wait(0, 2, 1), 0);
            due("up at 5", x.wait(1, 5, 0), seats);
            due("up at 6", x.wait(1, 6, 0), 2 * seats);
            due("up at 7", x.wait(1, 7, 0), 2 * seats + 1);
            due("LONGEST", x.took(0, 1), seats + 1);
        }
    }

    /** "or as are queued". */
    private static void asAreQueued() {
        for (int many : new int[] {1, 8, 9}) {
            SkiMountain x = Check.made(lift("a", 5, 9, 0, 480));
            x.turn(0);
            x.arrive(3, many);
            due("none left", x.day(0), 0);
            due("none queued", x.wait(0, 3, 1), 0);
            due("all up", x.wait(1, 8, 0), many);
            due("LONGEST", x.took(0, 1), 0);
            due("took", x.took(0, 0), many);
        }
    }

    /** "LIFTS, if OPEN": those queued stay queued while it is SHUT. */
    private static void liftsThatAreShutTakeNobody() {
        SkiMountain x = Check.made(lift("a", 5, 1, 0, 480));
        Check.law(x, "shut lift if hour=1;");
        x.turn(0);
        x.arrive(58, 4);
        x.arrive(60, 3);
        x.day(0);
        due("58", x.wait(0, 58, 1), 3);
        due("59", x.wait(0, 59, 1), 2);
        due("60", x.wait(0, 60, 1), 2);
        due("119", x.wait(0, 119, 1), 2);
        due("who came then is undecided", x.wait(0, 119, 0), 3);
        due("120", x.wait(0, 120, 1), 4);
        due("none undecided", x.wait(0, 120, 0), 0);
    }

    /** "if it goes off duty behind this MINUTE, who is queued then waits undecided". */
    private static void offDutyBehindThisMinute() {
        SkiMountain x = Check.made(lift("a", 5, 2, 0, 60));
        x.turn(0);
        x.arrive(58, 9);
        due("five stay", x.day(0), 5);
        due("queued at 58", x.wait(0, 58, 1), 7);
        due("undecided at 58", x.wait(0, 58, 0), 0);
        due("queued at 59", x.wait(0, 59, 1), 0);
        due("undecided at 59", x.wait(0, 59, 0), 5);
        due("LONGEST", x.took(0, 1), 7);
        SkiMountain y = Check.made(lift("a", 5, 2, 0, 480));
        y.turn(0);
        y.arrive(478, 9);
        due("at 480, too", y.day(0), 5);
        due("queued at 478", y.wait(0, 478, 1), 7);
        due("undecided at 479", y.wait(0, 479, 0), 5);
    }

    /** It goes off duty whether it is SHUT then or not. */
    private static void shutAsItGoesOffDuty() {
        SkiMountain x = Check.made(lift("a", 5, 1, 0, 120));
        Check.law(x, "shut lift if hour=1;");
        x.turn(0);
        x.arrive(50, 30);
        due("twenty stay", x.day(0), 20);
        due("queued at 59", x.wait(0, 59, 1), 20);
        due("queued at 118", x.wait(0, 118, 1), 20);
        due("undecided at 118", x.wait(0, 118, 0), 0);
        due("queued at 119", x.wait(0, 119, 1), 0);
        due("undecided at 119", x.wait(0, 119, 0), 20);
        due("undecided at 479", x.wait(0, 479, 0), 20);
        due("ten got on", x.took(0, 0), 10);
    }

    /** "at its P from now on": they take TURNS again in the next MINUTE. */
    private static void undecidedFromNowOn() {
        SkiMountain x = Check.made(lift("a", 5, 2, 0, 60) + run("p0 p2", 9, 300));
        x.turn(0);
        x.turn(0);
        x.turn(0);
        x.turn(10);
        x.arrive(59, 8);
        x.day(0);
        due("six queued, two gone by the RUN", x.took(10, 0), 6);
        due("undecided at 59", x.wait(0, 59, 0), 4);
        due("gone at 60", x.wait(0, 60, 0), 0);
        due("by the RUN", x.snow(0, 59) - x.snow(0, 60), 4);
        due("by the LIFT", x.took(0, 0), 2);
    }

    /** "LONGEST of a LIFT: the greatest number queued behind (d) of a MINUTE." */
    private static void longestBehindAMinute() {
        SkiMountain x = Check.made(lift("a", 5, 10, 0, 480) + lift("b", 5, 99, 479, 480));
        x.turn(0);
        x.arrive(0, 10);
        x.arrive(5, 13);
        x.arrive(9, 12);
        x.day(0);
        due("none, 3, 2", x.took(0, 1), 3);
        due("of the other", x.took(1, 1), 0);
        x.turn(1);
        x.day(0);
        due("half of them", x.took(0, 1), 0);
        due("the others wait", x.took(1, 1), 17);
        due("and all go", x.took(1, 0), 17);
    }

    /** (d) ends with who waits undecided as the LIFT goes off duty: they are queued no more. */
    private static void longestBehindAllOfThat() {
        SkiMountain x = Check.made(lift("a", 5, 2, 0, 1));
        x.turn(0);
        x.arrive(0, 9);
        x.day(0);
        due("its one MINUTE", x.took(0, 1), 0);
        due("got on", x.took(0, 0), 2);
        due("undecided", x.wait(0, 0, 0), 7);
        SkiMountain y = Check.made(lift("b", 5, 2, 0, 2));
        y.turn(0);
        y.arrive(0, 9);
        y.day(0);
        due("its first of two", y.took(0, 1), 7);
    }

    /** "LONGEST (of a LIFT; 0 of a RUN)". */
    private static void longestOfRuns() {
        SkiMountain x = Check.made(run("p0 p1", 9, 300));
        x.turn(10);
        x.arrive(0, 100);
        x.day(0);
        due("0", x.took(10, 1), 0);
        due("all", x.took(10, 0), 100);
    }

    // ---- 26 .. 28: wait, snow, took

    /** wait: "NONE for others, or without." */
    private static void waitAsked() {
        SkiMountain x = Check.made(lift("a", 5, 1, 0, 480));
        due("without", x.wait(0, 0, 0), NONE);
        due("without, queued", x.wait(0, 0, 1), NONE);
        x.turn(0);
        x.arrive(0, 3);
        x.day(0);
        for (int p = 0; p <= 9; p++) {
            due("P " + p, x.wait(p, 0, 1), p == 0 ? 2 : 0);
            due("P " + p + " at 479", x.wait(p, 479, 0), p == 1 ? 3 : 0);
        }
        for (int p : new int[] {-1, 10, 11, MIN, MAX}) {
            due("P " + p, x.wait(p, 0, 0), NONE);
            due("P " + p + " queued", x.wait(p, 0, 1), NONE);
        }
        for (int minute : new int[] {-1, 480, 481, MIN, MAX}) {
            due("MINUTE " + minute, x.wait(0, minute, 0), NONE);
            due("MINUTE " + minute + " queued", x.wait(0, minute, 1), NONE);
        }
        for (int what : new int[] {-1, 2, 3, MIN, MAX}) {
            due("what " + what, x.wait(0, 0, what), NONE);
        }
    }

    /** "are queued for its LIFTS": all of them, and those of no other P. */
    private static void queuedForAllItsLifts() {
        SkiMountain x = Check.made(lift("a", 5, 1, 0, 480) + lift("b", 5, 2, 0, 480)
            + "lift c p1 p2 takes 5 seats 1 from 0 to 480;");
        x.turn(0);
        x.turn(1);
        x.turn(2);
        x.arrive(0, 20);
        x.day(0);
        due("9 and 8", x.wait(0, 0, 1), 17);
        due("none undecided", x.wait(0, 0, 0), 0);
        due("LONGEST of a", x.took(0, 1), 9);
        due("LONGEST of b", x.took(1, 1), 8);
        due("for c at 5", x.wait(1, 5, 1), 2);
        due("home at 5", x.wait(0, 5, 1), 4);
    }

    /** snow: "NONE likewise." */
    private static void snowAsked() {
        SkiMountain x = Check.made(run("p0 p1", 9, 3) + run("p0 p2", 9, 4));
        due("without", x.snow(0, 0), NONE);
        x.day(0);
        due("RUN 0", x.snow(0, 0), 30);
        due("RUN 1", x.snow(1, 479), 40);
        for (int run : new int[] {-1, 2, 6, 7, 10, 11, MIN, MAX}) {
            due("RUN " + run, x.snow(run, 0), NONE);
        }
        for (int minute : new int[] {-1, 480, 481, MIN, MAX}) {
            due("MINUTE " + minute, x.snow(0, minute), NONE);
        }
    }

    /** took: "NONE likewise." */
    private static void tookAsked() {
        SkiMountain x = Check.made(lift("a", 5, 2, 0, 480) + run("p0 p2", 9, 4));
        due("without", x.took(0, 0), NONE);
        due("without, a RUN", x.took(10, 1), NONE);
        x.turn(0);
        x.arrive(0, 5);
        x.day(0);
        due("got on", x.took(0, 0), 5);
        due("LONGEST", x.took(0, 1), 3);
        due("began it", x.took(10, 0), 0);
        for (int way : new int[] {-1, 1, 5, 6, 9, 11, 16, 17, MIN, MAX}) {
            due("WAY " + way, x.took(way, 0), NONE);
            due("WAY " + way + ", LONGEST", x.took(way, 1), NONE);
        }
        for (int what : new int[] {-1, 2, 3, MIN, MAX}) {
            due("what " + what, x.took(0, what), NONE);
            due("what " + what + " of a RUN", x.took(10, what), NONE);
        }
    }

    /** "of the day run last": what is told behind it changes nothing, another day all. */
    private static void ofTheDayRunLast() {
        SkiMountain x = Check.made(lift("a", 5, 2, 0, 480) + run("p0 p2", 9, 4));
        x.arrive(0, 5);
        due("first day", x.day(0), 5);
        x.turn(0);
        x.arrive(0, 5);
        x.make(0, 20);
        x.weather(0, 0, 40);
        x.later(3);
        due("wait", x.wait(0, 0, 0), 5);
        due("snow", x.snow(0, 479), 40);
        due("took", x.took(0, 0), 0);
        due("a FAULT", Check.mountain(x, "lift"), NONE);
        due("a FAULT in a LAW", Check.law(x, "shut"), NONE);
        due("wait still", x.wait(0, 479, 0), 5);
        due("second day", x.day(3), 0);
        due("wait now", x.wait(0, 0, 1), 8);
        due("snow now", x.snow(0, 0), 460);
        due("took now", x.took(0, 0), 10);
    }

    /** A day that is run again is as it was: nobody is left of the one ahead. */
    private static void oneDayAsTheOther() {
        SkiMountain x = Check.made(lift("a", 5, 1, 0, 100) + run("p1 p0", 9, 2) + lift("b", 7, 2, 50, 480));
        x.turn(0);
        x.turn(1);
        x.turn(0);
        x.turn(10);
        x.make(0, 1);
        x.arrive(3, 25);
        x.arrive(60, 8);
        int home = x.day(0);
        int[] first = seenOfADay(x);
        for (int day = 0; day < 2; day++) {
            due("home again", x.day(0), home);
            int[] again = seenOfADay(x);
            for (int n = 0; n < first.length; n++) {
                due("number " + n + " again", again[n], first[n]);
            }
        }
        due("queued at 4", x.wait(0, 4, 1), 25 - 2);
        due("and one less at 5", x.wait(0, 5, 1), 25 - 3);
    }

    private static int[] seenOfADay(SkiMountain x) {
        int[] all = new int[50];
        int at = 0;
        for (int minute : new int[] {4, 5, 20, 49, 60, 99, 100, 479}) {
            for (int p = 0; p < 2; p++) {
                all[at++] = x.wait(p, minute, 0);
                all[at++] = x.wait(p, minute, 1);
            }
            all[at++] = x.snow(0, minute);
        }
        for (int way : new int[] {0, 1, 10}) {
            all[at++] = x.took(way, 0);
            all[at++] = x.took(way, 1);
        }
        return all;
    }

    /** "(WEATHER as known when it is run, at a k)". */
    private static void asKnownAtK() {
        SkiMountain x = Check.made(run("p0 p1", 9, 0));
        Check.law(x, "shut run if wind>50;");
        x.turn(10);
        x.arrive(0, 30);
        x.later(10);
        x.weather(0, 0, 2);
        x.weather(1, 51, 2);
        x.later(10);
        x.untell(1);
        int[] ks = {MIN, 9, 10, 19, 20, MAX};
        int[] left = {30, 30, 19, 19, 19, 19};
        int[] snow = {0, 0, 29, 29, 9, 9};
        for (int n = 0; n < ks.length; n++) {
            due("known at " + ks[n], x.day(ks[n]), left[n]);
            due("snow", x.snow(0, 60), snow[n]);
        }
    }

    // ---- empty and full

    private static void dayWithoutAnything() {
        SkiMountain x = new SkiMountain();
        due("no day", x.wait(0, 0, 0), NONE);
        due("nobody", x.day(0), 0);
        due("a day", x.wait(9, 479, 1), 0);
        due("no RUN", x.snow(0, 0), NONE);
        due("no WAY", x.took(0, 0), NONE);
        due("a LAW", Check.law(x, ""), 0);
        due("none then", x.wait(0, 0, 0), NONE);
        x.day(0);
        due("a MOUNTAIN", x.mountain(), 0);
        due("none then", x.wait(0, 0, 0), NONE);
    }

    /** 20 ARRIVALS of 500 in one MINUTE, 6 TURNS. */
    private static void fullDay() {
        SkiMountain x = Check.made(lift("a", 30, 99, 0, 480) + run("p0 p2", 60, 300) + run("p0 p3", 60, 300));
        for (int n = 0; n < 20; n++) {
            x.arrive(0, 500);
        }
        int[] turns = {0, 10, 0, 11, 10, 0};
        for (int way : turns) {
            x.turn(way);
        }
        due("all go", x.day(0), 0);
        // 1,495 whole rounds are 8,970; RUN 0 has snow for one more, then it is left out:
        // in the next round five go, 1,024 in 256 rounds of four, and one more by the LIFT
        due("RUN 0 to 9 mm", x.snow(0, 0), 9);
        due("by RUN 0", x.took(10, 0), 2 * 1495 + 1);
        due("by RUN 1", x.took(11, 0), 1495 + 1 + 256);
        due("snow of RUN 1", x.snow(1, 0), 3000 - 1752);
        due("by the LIFT", x.took(0, 0), 3 * 1495 + 3 + 3 * 256 + 1);
        due("LONGEST", x.took(0, 1), 5257 - 99);
        due("none undecided", x.wait(0, 0, 0), 0);
    }
}
