/** The boundaries of WEATHER, of the TIME and of what is OPEN: a test for each sentence that names one. */
public final class WeatherBoundsTest {
    private static final int NONE = SkiMountain.NONE;
    private static final int MIN = Integer.MIN_VALUE;
    private static final int MAX = Integer.MAX_VALUE;

    private WeatherBoundsTest() {
    }

    public static void main(String[] args) {
        hoursOfWeather();
        windOfWeather();
        freshOfWeather();
        refusedWeather();
        sixtyTellings();
        untoldOnesAreCounted();
        numbersOfTellings();
        untellOnce();
        untellNoneSuch();
        timeAtFirst();
        laterBySteps();
        timeAtItsEnd();
        timeJustAheadOfItsEnd();
        toldAtKOrBefore();
        untoldAtKOrBefore();
        toldAndUntoldAtOneTime();
        lastTold();
        lastToldLeft();
        windOfTheHourBefore();
        zeroAheadOfAll();
        freshWithout();
        airAsksForTwo();
        airOfHours();
        anyK();
        openMinutes();
        openWays();
        openWithout();
        openOnDuty();
        openRuns();
        openBySnow();
        weatherIsKeptBesideTheDay();
        Check.close();
    }

    private static void due(String call, long got, long want) {
        Check.due(call, got, want);
    }

    private static void due(String call, boolean got, boolean want) {
        Check.due(call, got, want);
    }

    // ---- 7, 8: weather, untell

    /** "an HOUR (0 .. 7)". */
    private static void hoursOfWeather() {
        for (int hour = 0; hour <= 7; hour++) {
            SkiMountain x = new SkiMountain();
            due("hour " + hour, x.weather(hour, 9, 8), 0);
            due("its wind", x.air(hour, 0, 0), 9);
            due("its fresh", x.air(hour, 1, 0), 8);
        }
        for (int hour : new int[] {-1, 8, 9, 60, MIN, MAX}) {
            SkiMountain x = new SkiMountain();
            due("hour " + hour, x.weather(hour, 9, 8), NONE);
            due("none told", x.about(3), 0);
        }
    }

    /** "wind 0 .. 99". */
    private static void windOfWeather() {
        for (int wind : new int[] {0, 1, 98, 99}) {
            SkiMountain x = new SkiMountain();
            due("wind " + wind, x.weather(3, wind, 8), 0);
            due("is told", x.air(3, 0, 0), wind);
        }
        for (int wind : new int[] {-1, 100, 101, MIN, MAX}) {
            SkiMountain x = new SkiMountain();
            due("wind " + wind, x.weather(3, wind, 8), NONE);
            due("none told", x.about(3), 0);
        }
    }

    /** "fresh 0 .. 40". */
    private static void freshOfWeather() {
        for (int fresh : new int[] {0, 1, 39, 40}) {
            SkiMountain x = new SkiMountain();
            due("fresh " + fresh, x.weather(3, 5, fresh), 0);
            due("is told", x.air(3, 1, 0), fresh);
        }
        for (int fresh : new int[] {-1, 41, 42, MIN, MAX}) {
            SkiMountain x = new SkiMountain();
            due("fresh " + fresh, x.weather(3, 5, fresh), NONE);
            due("none told", x.about(3), 0);
        }
    }

    /** "NONE, doing nothing, if it can't be". */
    private static void refusedWeather() {
        SkiMountain x = new SkiMountain();
        due("told", x.weather(3, 5, 6), 0);
        due("wind 100", x.weather(3, 100, 7), NONE);
        due("fresh 41", x.weather(3, 8, 41), NONE);
        due("hour 8", x.weather(8, 8, 7), NONE);
        due("wind stays", x.air(3, 0, 0), 5);
        due("fresh stays", x.air(3, 1, 0), 6);
        due("the next number", x.weather(4, 7, 7), 1);
        due("two", x.about(3), 2);
    }

    /** "WEATHER, 60 TELLINGS at most"; "NONE, doing nothing, if .. there are 60." */
    private static void sixtyTellings() {
        SkiMountain x = new SkiMountain();
        for (int n = 0; n < 59; n++) {
            x.weather(1, 10, 1);
        }
        due("the 60th", x.weather(2, 20, 2), 59);
        due("60", x.about(3), 60);
        due("the 61st", x.weather(2, 30, 3), NONE);
        due("still 60", x.about(3), 60);
        due("the 60th counts", x.air(2, 0, 0), 20);
        due("its fresh", x.air(2, 1, 0), 2);
        due("another HOUR", x.weather(5, 30, 3), NONE);
        due("nothing of it", x.air(5, 0, 0), 20);
        due("no TELLING 60", x.untell(60), false);
        due("TELLING 59", x.untell(59), true);
    }

    /** What is UNTOLD is a TELLING still. */
    private static void untoldOnesAreCounted() {
        SkiMountain x = new SkiMountain();
        for (int n = 0; n < 60; n++) {
            x.weather(1, 10, 1);
        }
        for (int n = 0; n < 60; n++) {
            due("untell " + n, x.untell(n), true);
        }
        due("none counts", x.air(1, 0, 0), 0);
        due("60", x.about(3), 60);
        due("no more", x.weather(0, 0, 0), NONE);
        due("later on neither", x.later(1000) * 0 + x.weather(0, 0, 0), NONE);
    }

    /** "WEATHER of an HOUR: its number": from 0 on, whatever is UNTOLD. */
    private static void numbersOfTellings() {
        SkiMountain x = new SkiMountain();
        due("0", x.weather(7, 1, 0), 0);
        due("1", x.weather(7, 2, 0), 1);
        x.untell(1);
        due("2", x.weather(7, 3, 0), 2);
        due("none", x.weather(7, 3, 41), NONE);
        due("3", x.weather(6, 3, 0), 3);
        due("another MOUNTAIN", x.mountain(), 0);
        due("another LAW", x.law(), 0);
        due("4", x.weather(6, 3, 0), 4);
    }

    /** "A TELLING is UNTOLD: true; false if it is so already". */
    private static void untellOnce() {
        SkiMountain x = new SkiMountain();
        x.weather(0, 5, 0);
        x.weather(0, 6, 0);
        due("1", x.untell(1), true);
        due("1 again", x.untell(1), false);
        due("0 is left", x.air(0, 0, 0), 5);
        x.later(10);
        due("1 later", x.untell(1), false);
        due("0", x.untell(0), true);
        due("as known ahead", x.air(0, 0, 9), 5);
        due("as known then", x.air(0, 0, 10), 0);
        x.later(10);
        due("0 again", x.untell(0), false);
        due("UNTOLD as at first", x.air(0, 0, 10), 0);
    }

    /** "or there is none such." */
    private static void untellNoneSuch() {
        SkiMountain x = new SkiMountain();
        due("0 of none", x.untell(0), false);
        due("-1 of none", x.untell(-1), false);
        x.weather(0, 5, 0);
        for (int n : new int[] {-1, 1, 2, 59, 60, MIN, MAX}) {
            due("untell " + n, x.untell(n), false);
        }
        due("it counts", x.air(0, 0, 0), 5);
        due("0", x.untell(0), true);
    }

    // ---- 9: later

    /** "a TIME (0 at first, goes on)". */
    private static void timeAtFirst() {
        SkiMountain x = new SkiMountain();
        due("at first", x.about(7), 0);
        due("told at 0", x.weather(0, 5, 0), 0);
        due("known at 0", x.air(0, 0, 0), 5);
        due("not at -1", x.air(0, 0, -1), 0);
        due("by 0", x.later(0), 0);
        due("by 3", x.later(3), 3);
        due("by 4 more", x.later(4), 7);
        due("the TIME", x.about(7), 7);
    }

    /** "So much later (0 .. 1000)". */
    private static void laterBySteps() {
        for (int by : new int[] {0, 1, 999, 1000}) {
            SkiMountain x = new SkiMountain();
            due("later " + by, x.later(by), by);
            due("the TIME", x.about(7), by);
        }
        for (int by : new int[] {-1, -1000, 1001, 1002, 100000, MIN, MAX}) {
            SkiMountain x = new SkiMountain();
            due("later 5", x.later(5), 5);
            due("later " + by, x.later(by), NONE);
            due("the TIME stays", x.about(7), 5);
        }
    }

    /** "NONE, doing nothing, .. if it would be above 100,000." */
    private static void timeAtItsEnd() {
        SkiMountain x = new SkiMountain();
        for (int n = 1; n <= 100; n++) {
            due("1000 more", x.later(1000), 1000 * n);
        }
        due("1 more", x.later(1), NONE);
        due("1000 more", x.later(1000), NONE);
        due("the TIME stays", x.about(7), 100000);
        due("0 more", x.later(0), 100000);
        due("told then", x.weather(0, 5, 0), 0);
        due("known at 100,000", x.air(0, 0, 100000), 5);
        due("not at 99,999", x.air(0, 0, 99999), 0);
    }

    /** The same, where less than what is asked for would have room. */
    private static void timeJustAheadOfItsEnd() {
        SkiMountain x = new SkiMountain();
        for (int n = 1; n <= 99; n++) {
            x.later(1000);
        }
        due("99,001", x.later(1), 99001);
        due("1000 more", x.later(1000), NONE);
        due("it stays", x.about(7), 99001);
        due("999 more", x.later(999), 100000);
    }

    // ---- as known at k

    /** "AS KNOWN at k one counts that was TOLD at k or before". */
    private static void toldAtKOrBefore() {
        SkiMountain x = new SkiMountain();
        x.later(500);
        x.weather(2, 50, 9);
        int[] ks = {MIN, -1, 0, 499, 500, 501, 100000, 100001, MAX};
        for (int k : ks) {
            due("wind at " + k, x.air(2, 0, k), k >= 500 ? 50 : 0);
            due("fresh at " + k, x.air(2, 1, k), k >= 500 ? 9 : 0);
        }
    }

    /** "and not UNTOLD at k or before". */
    private static void untoldAtKOrBefore() {
        SkiMountain x = new SkiMountain();
        x.later(500);
        x.weather(2, 50, 9);
        x.later(100);
        x.untell(0);
        int[] ks = {MIN, 0, 499, 500, 599, 600, 601, 100000, MAX};
        for (int k : ks) {
            due("wind at " + k, x.air(2, 0, k), k >= 500 && k < 600 ? 50 : 0);
            due("fresh at " + k, x.air(2, 1, k), k >= 500 && k < 600 ? 9 : 0);
        }
        x.later(1000);
        due("later as well", x.air(2, 0, 599), 50);
        due("later neither", x.air(2, 0, 600), 0);
    }

    /** "UNTOLD at a later one or the same". */
    private static void toldAndUntoldAtOneTime() {
        SkiMountain x = new SkiMountain();
        x.weather(2, 50, 9);
        due("at the same", x.untell(0), true);
        for (int k : new int[] {MIN, -1, 0, 1, MAX}) {
            due("never known: " + k, x.air(2, 0, k) + x.air(2, 1, k), 0);
        }
        x.later(1);
        x.weather(2, 60, 7);
        due("at the same again", x.untell(1), true);
        due("never known", x.air(2, 0, 1), 0);
        x.weather(2, 70, 7);
        x.later(1);
        due("at a later one", x.untell(2), true);
        due("known at 1", x.air(2, 0, 1), 70);
        due("not at 2", x.air(2, 0, 2), 0);
    }

    /** "of an HOUR the last TOLD": at one TIME or at two, wind and fresh of one. */
    private static void lastTold() {
        SkiMountain x = new SkiMountain();
        x.weather(2, 50, 9);
        x.weather(2, 30, 0);
        x.weather(3, 20, 1);
        due("wind", x.air(2, 0, 0), 30);
        due("fresh", x.air(2, 1, 0), 0);
        x.later(1);
        x.weather(2, 0, 12);
        due("wind at 1", x.air(2, 0, 1), 0);
        due("fresh at 1", x.air(2, 1, 1), 12);
        due("wind at 0", x.air(2, 0, 0), 30);
        due("the next HOUR", x.air(3, 0, 1), 20);
    }

    /** Of those that count: one UNTOLD leaves the one ahead of it. */
    private static void lastToldLeft() {
        SkiMountain x = new SkiMountain();
        x.weather(2, 50, 9);
        x.weather(2, 30, 5);
        x.weather(2, 40, 7);
        x.later(1);
        x.untell(1);
        due("in the middle", x.air(2, 0, 1), 40);
        x.later(1);
        x.untell(2);
        due("the first is left", x.air(2, 0, 2) * 100 + x.air(2, 1, 2), 5009);
        x.later(1);
        x.untell(0);
        due("none is left", x.air(2, 0, 3) * 100 + x.air(2, 1, 3), 0);
        due("known at 2", x.air(2, 0, 2), 50);
        due("known at 1", x.air(2, 0, 1), 40);
        due("known at 0", x.air(2, 0, 0), 40);
    }

    /** "without one its wind is that of the HOUR before". */
    private static void windOfTheHourBefore() {
        SkiMountain x = new SkiMountain();
        x.weather(0, 11, 3);
        for (int hour = 0; hour < 8; hour++) {
            due("from HOUR 0: " + hour, x.air(hour, 0, 0), 11);
        }
        x.weather(3, 0, 0);
        due("up to 2", x.air(2, 0, 0), 11);
        for (int hour = 3; hour < 8; hour++) {
            due("a wind of 0 told: " + hour, x.air(hour, 0, 0), 0);
        }
        x.weather(7, 99, 0);
        due("6", x.air(6, 0, 0), 0);
        due("7", x.air(7, 0, 0), 99);
        x.untell(1);
        due("6 of 0", x.air(6, 0, 0), 11);
    }

    /** "(0 ahead of all)". */
    private static void zeroAheadOfAll() {
        SkiMountain x = new SkiMountain();
        for (int hour = 0; hour < 8; hour++) {
            due("none told: " + hour, x.air(hour, 0, 0), 0);
        }
        x.weather(7, 99, 40);
        for (int hour = 0; hour < 7; hour++) {
            due("ahead of 7: " + hour, x.air(hour, 0, 0), 0);
        }
        due("7", x.air(7, 0, 0), 99);
        due("the first does not follow the last", x.air(0, 0, MAX), 0);
    }

    /** "its fresh 0". */
    private static void freshWithout() {
        SkiMountain x = new SkiMountain();
        x.weather(0, 11, 40);
        x.weather(6, 11, 39);
        int[] want = {40, 0, 0, 0, 0, 0, 39, 0};
        for (int hour = 0; hour < 8; hour++) {
            due("fresh of " + hour, x.air(hour, 1, 0), want[hour]);
        }
    }

    // ---- 10: air

    /** "what 0: wind, 1: fresh. NONE if there is none such." */
    private static void airAsksForTwo() {
        SkiMountain x = new SkiMountain();
        x.weather(0, 11, 40);
        due("0", x.air(0, 0, 0), 11);
        due("1", x.air(0, 1, 0), 40);
        for (int what : new int[] {-1, 2, 3, MIN, MAX}) {
            due("what " + what, x.air(0, what, 0), NONE);
        }
    }

    /** "NONE if there is none such": HOURS. */
    private static void airOfHours() {
        SkiMountain x = new SkiMountain();
        x.weather(0, 11, 40);
        x.weather(7, 12, 39);
        for (int hour : new int[] {-1, 8, 9, MIN, MAX}) {
            due("wind of " + hour, x.air(hour, 0, 0), NONE);
            due("fresh of " + hour, x.air(hour, 1, 0), NONE);
        }
        due("0", x.air(0, 0, 0), 11);
        due("7", x.air(7, 0, 0), 12);
    }

    /** k is any number: what is not TOLD yet is not known, however late it is asked for. */
    private static void anyK() {
        SkiMountain x = Check.made("run a p0 p1 grade 0 takes 5 snow 6;");
        Check.law(x, "shut run if wind>10;");
        x.later(10);
        x.weather(0, 11, 1);
        for (int k : new int[] {MIN, -1, 0, 9}) {
            due("OPEN at " + k, x.open(10, 0, k), 1);
            due("soonest at " + k, x.soonest(0, 0, 0, 1, k), 5);
            due("last at " + k, x.last(0, 0, k), 480);
        }
        for (int k : new int[] {10, 11, 100001, MAX}) {
            due("OPEN at " + k, x.open(10, 0, k), 0);
            due("soonest at " + k, x.soonest(0, 0, 0, 1, k), NONE);
        }
    }

    // ---- 11: open

    /** "at a MINUTE (0 .. 480)"; "NONE if there is none such." */
    private static void openMinutes() {
        SkiMountain x = Check.made("lift a p0 p1 takes 5 seats 6 from 0 to 480;run b p0 p1 grade 0 takes 5 snow 6;");
        for (int way = 0; way <= 10; way += 10) {
            due("0 of " + way, x.open(way, 0, 0), 1);
            due("479 of " + way, x.open(way, 479, 0), 1);
            due("480 of " + way, x.open(way, 480, 0), 0);
            for (int minute : new int[] {-1, 481, 540, MIN, MAX}) {
                due(minute + " of " + way, x.open(way, minute, 0), NONE);
            }
        }
    }

    /** "NONE if there is none such": WAYS. */
    private static void openWays() {
        SkiMountain x = Check.made("lift a p0 p1 takes 5 seats 6 from 0 to 480;run b p0 p1 grade 0 takes 5 snow 6;"
            + "lift c p0 p1 takes 5 seats 6 from 0 to 480;");
        for (int way = -3; way <= 30; way++) {
            boolean there = way == 0 || way == 1 || way == 10;
            due("WAY " + way, x.open(way, 5, 0), there ? 1 : NONE);
        }
        due("WAY MIN", x.open(MIN, 5, 0), NONE);
        due("WAY MAX", x.open(MAX, 5, 0), NONE);
    }

    /** Without LIFTS or RUNS there is none such. */
    private static void openWithout() {
        SkiMountain x = Check.made("run b p0 p1 grade 0 takes 5 snow 6;");
        due("no LIFT", x.open(0, 5, 0), NONE);
        due("a RUN", x.open(10, 5, 0), 1);
        due("another MOUNTAIN", Check.mountain(x, "lift a p0 p1 takes 5 seats 6 from 0 to 480;"), 1);
        due("a LIFT", x.open(0, 5, 0), 1);
        due("no RUN", x.open(10, 5, 0), NONE);
    }

    /** "A LIFT is OPEN at a MINUTE if it is on duty and not SHUT then". */
    private static void openOnDuty() {
        SkiMountain x = Check.made("lift a p0 p1 takes 5 seats 6 from 60 to 180;");
        int[] minutes = {0, 59, 60, 119, 120, 179, 180, 181, 480};
        int[] open = {0, 0, 1, 1, 1, 1, 0, 0, 0};
        int[] shut = {0, 0, 1, 1, 0, 0, 0, 0, 0};
        for (int n = 0; n < minutes.length; n++) {
            due("OPEN at " + minutes[n], x.open(0, minutes[n], 0), open[n]);
        }
        due("law", Check.law(x, "shut lift if hour=2;"), 1);
        for (int n = 0; n < minutes.length; n++) {
            due("OPEN or SHUT at " + minutes[n], x.open(0, minutes[n], 0), shut[n]);
        }
    }

    /** "a RUN (0 .. 479) if it is not SHUT." */
    private static void openRuns() {
        SkiMountain x = Check.made("run b p0 p1 grade 3 takes 60 snow 0;");
        due("0", x.open(10, 0, 0), 1);
        due("479", x.open(10, 479, 0), 1);
        due("480", x.open(10, 480, 0), 0);
        due("law", Check.law(x, "shut run if hour=7 or hour=0;"), 1);
        int[] minutes = {0, 59, 60, 419, 420, 479, 480};
        int[] open = {0, 0, 1, 1, 0, 0, 0};
        for (int n = 0; n < minutes.length; n++) {
            due("OPEN at " + minutes[n], x.open(10, minutes[n], 0), open[n]);
        }
    }

    /** A RUN is SHUT by no lack of snow and by no wind, but by the LAW alone. */
    private static void openBySnow() {
        SkiMountain x = Check.made("run b p0 p1 grade 3 takes 60 snow 0;lift a p0 p1 takes 5 seats 6 from 0 to 480 gate;");
        x.weather(0, 99, 0);
        due("RUN", x.open(10, 0, 0), 1);
        due("LIFT with a gate", x.open(0, 0, 0), 1);
    }

    /** TELLINGS behind a day change nothing of what was run. */
    private static void weatherIsKeptBesideTheDay() {
        SkiMountain x = Check.made("run b p0 p1 grade 0 takes 60 snow 1;");
        x.day(0);
        due("told", x.weather(0, 0, 40), 0);
        due("snow as run", x.snow(0, 0), 10);
        due("run again", x.day(0), 0);
        due("snow now", x.snow(0, 0), 410);
        x.untell(0);
        due("as run", x.snow(0, 479), 410);
        x.day(0);
        due("without it", x.snow(0, 479), 10);
    }
}
