/** Each promise of the document by hand: ordinary inputs, edges, wrong inputs. */
public final class PromisesTest {
    private static final int NONE = SkiMountain.NONE;
    private static final int MIN = Integer.MIN_VALUE;
    private static final int MAX = Integer.MAX_VALUE;

    /** Two LIFTS, one with a gate, three RUNS. */
    private static final String ALP = "lift chair p0 p1 takes 10 seats 2 from 0 to 400;"
        + "lift tow p1 p2 takes 5 seats 4 from 60 to 300 gate;"
        + "run easy p1 p0 grade 1 takes 20 snow 50;"
        + "run steep p2 p1 grade 3 takes 8 snow 0;"
        + "run long p2 p0 grade 2 takes 30 snow 100;home p0;";

    private static SkiMountain x;

    private PromisesTest() {
    }

    public static void main(String[] args) {
        newObject();
        tape();
        cutText();
        mountainText();
        mountainFaults();
        mountainLimits();
        mountainForgets();
        lawText();
        lawFaults();
        lawLimits();
        lawValues();
        faultOfBoth();
        weather();
        weatherLimits();
        untell();
        later();
        air();
        open();
        soonest();
        way();
        wayGoesRound();
        last();
        skier();
        pass();
        unpass();
        can();
        canClash();
        canOn();
        canWithoutGates();
        places();
        meet();
        arrive();
        turn();
        make();
        day();
        turnsGoOn();
        turnsLeftOut();
        shutInTheDay();
        offDuty();
        snowfall();
        waitSnowTook();
        sweep();
        sweepByTwo();
        about();
        Check.close();
    }

    private static void due(String call, long got, long want) {
        Check.due(call, got, want);
    }

    private static void fresh(String mountain) {
        x = new SkiMountain();
        due("mountain " + mountain, Check.mountain(x, mountain) >= 0 ? 1 : 0, 1);
    }

    // ---- 1

    private static void newObject() {
        x = new SkiMountain();
        for (int what = 0; what < 10; what++) {
            due("new about(" + what + ")", x.about(what), 0);
        }
        due("new fault(0)", x.fault(0), 0);
        due("new fault(1)", x.fault(1), NONE);
        due("new air", x.air(7, 0, MAX), 0);
        due("new can", x.can(0, 0, 0, 0), NONE);
        due("new wait", x.wait(0, 0, 0), NONE);
        due("new soonest", x.soonest(3, 9, 480, 9, 0), 480);
        due("new last", x.last(3, 0, 0), 480);
        due("new open", x.open(0, 0, 0), NONE);
        due("new untell", x.untell(0), false);
        due("new unpass", x.unpass(0), false);
        due("new turn", x.turn(0), NONE);
        due("new make", x.make(0, 0), false);
        due("new sweep", x.sweep(9, 2), 0);
        due("NONE", NONE, -1);
    }

    private static void due(String call, boolean got, boolean want) {
        Check.due(call, got, want);
    }

    // ---- 2, 3

    private static void tape() {
        x = new SkiMountain();
        for (int n = 1; n <= 70; n++) {
            due("feed " + n, x.feed(0x686f6d65, 0x20703320, 0x20202020, 0x3b202020, 0x20202020), 20 * n);
        }
        due("feed 71", x.feed(0, 0, 0, 0, 0), NONE);
        due("bytes", x.about(8), 1400);
        due("end too far", x.end(1401), NONE);
        due("end below 0", x.end(-1), NONE);
        due("end MIN", x.end(MIN), NONE);
        due("bytes stay", x.about(8), 1400);
        due("end as it is", x.end(1400), 1400);
        due("end at 1381", x.end(1381), 1381);
        due("feed to 1401", x.feed(0, 0, 0, 0, 0), NONE);
        due("nothing came", x.about(8), 1381);
        due("end at 1380", x.end(1380), 1380);
        due("feed to 1400", x.feed(0, 0, 0, 0, 0), 1400);
        due("end at 13", x.end(13), 13);
        due("not so many now", x.end(14), NONE);
        due("the highest byte first", x.mountain(), 1);
        due("home", x.about(9), 3);
        due("the TAPE is empty then", x.about(8), 0);
        due("end 0 of 0", x.end(0), 0);
        due("end 1 of 0", x.end(1), NONE);
        // what was cut off is not there again: "home p4;" over an older text
        Check.tape(x, Check.bytes("home p4;zzzz"));
        x.end(8);
        due("cut text", x.mountain(), 1);
        due("home 4", x.about(9), 4);
        x.feed(0xff800001, 0, 0, 0, 0);
        due("bytes above 127 are no TOKEN", x.mountain(), NONE);
        due("at 0", x.fault(1), 0);
    }

    /** What was cut off from the TAPE is no part of the last TOKEN. */
    private static void cutText() {
        String[] cut = {"home p|0;", "home p0|x", "lift a p0 p1 takes 3|1", "lift a p0 p1 takes 3|x",
            "lift a p0 p1 takes 3333|3", "lift seat|s", "lift abcdefgh|i"};
        int[] places = {5, 7, 20, 20, 19, 9, 13};
        for (int n = 0; n < cut.length; n++) {
            int end = cut[n].indexOf('|');
            x = new SkiMountain();
            Check.tape(x, Check.bytes(cut[n].replace("|", "")));
            due("end " + cut[n], x.end(end), end);
            due("cut " + cut[n], x.mountain(), NONE);
            due("fault of " + cut[n], x.fault(0), n == 4 ? 4 : 2);
            due("place of " + cut[n], x.fault(1), places[n]);
        }
    }

    // ---- 4

    private static void mountainText() {
        fresh(ALP);
        due("lifts", x.about(0), 2);
        due("runs", x.about(1), 3);
        due("lines", x.about(2), 6);
        due("blanks or not", Check.mountain(x, "\n run  r\np1 p2\ngrade3takes 5snow 7;"), NONE);
        due("a letter behind N", x.fault(0), 1);
        due("its place", x.fault(1), 20);
        due("blanks not needed", Check.mountain(x, "run r p1 p2 grade3 takes5 snow7;home p2;lift l"
            + " p1p2 takes5 seats9 from7 to8;"), NONE);
        due("p1p2 is no P", x.fault(0), 2);
        due("at the word p", x.fault(1), 47);
        due("blanks not needed", Check.mountain(x, "run r p1 p2 grade3 takes0005 snow7;home p2;"
            + "lift p p3 p1\ntakes5 seats9 from7 to8;"), 3);
        due("home", x.about(9), 2);
        due("LIFT 0 though told behind a RUN", x.open(0, 7, 0), 1);
        due("LIFT not at 8", x.open(0, 8, 0), 0);
        due("RUN 10", x.open(10, 7, 0), 1);
        due("home p0 if not told", Check.mountain(x, "run a p1 p0 grade 0 takes 1 snow 0;"), 1);
        due("home p0", x.about(9), 0);
        due("no text", Check.mountain(x, ""), 0);
        due("blanks alone", Check.mountain(x, " \n "), 0);
        due("no LIFTS then", x.about(0) + x.about(1) + x.about(2), 0);
    }

    private static void badMountain(String text, int fault, int place) {
        due("lines of " + text, Check.mountain(x, text), NONE);
        due("fault of " + text, x.fault(0), fault);
        due("place of " + text, x.fault(1), place);
        due("TAPE behind " + text, x.about(8), 0);
    }

    private static void mountainFaults() {
        fresh(ALP);
        badMountain("lift", 2, 4);
        badMountain("lift  ", 2, 6);
        badMountain("Lift", 1, 0);
        badMountain("\tlift", 1, 0);
        badMountain("home p0;\u00e9", 1, 8);
        badMountain("home;", 2, 4);
        badMountain("home p;", 2, 5);
        badMountain("home p10;", 2, 5);
        badMountain("home p1a;", 2, 5);
        badMountain("home p1 p2;", 2, 8);
        badMountain("home p1", 2, 7);
        badMountain("home p1;;", 2, 8);
        badMountain("home p1;home p2;", 2, 8);
        badMountain("shut lift if 1<2;", 2, 0);
        badMountain("chair", 2, 0);
        badMountain("lift abcdefgh p0 p1;", 2, 19);
        badMountain("lift abcdefghi p0 p1;", 1, 5);
        for (String word : new String[] {"lift", "run", "home", "takes", "seats", "from", "to", "gate", "grade",
            "snow", "shut", "if", "or", "and", "not", "hour", "wind", "fresh"}) {
            badMountain("lift " + word, 2, 5);
            badMountain("run x" + word.charAt(0) + " p0 p1 " + word + "x", 2, 13);
        }
        badMountain("lift p0 p1 p2", 2, 5);
        badMountain("lift p 5", 2, 7);
        badMountain("lift a 12a", 1, 7);
        badMountain("lift a 12z", 1, 7);
        badMountain("lift z 12{", 2, 7);
        badMountain("lift a`", 1, 6);
        badMountain("lift a p1 p1", 5, 10);
        badMountain("run a p1 p1", 5, 9);
        badMountain("lift a p1;", 2, 9);
        badMountain("lift a p1 p0 takes x", 2, 19);
        badMountain("lift a p1 p0 takes 0", 4, 19);
        badMountain("lift a p1 p0 takes 31", 4, 19);
        badMountain("lift a p1 p0 takes 00030", 1, 19);
        badMountain("lift a p1 p0 takes 30 seats 0", 4, 28);
        badMountain("lift a p1 p0 takes 30 seats 100", 4, 28);
        badMountain("lift a p1 p0 takes 30 seats 99 from 481", 4, 36);
        badMountain("lift a p1 p0 takes 30 seats 99 from 480 to 480", 4, 43);
        badMountain("lift a p1 p0 takes 30 seats 99 from 480 to 481", 4, 43);
        badMountain("lift a p1 p0 takes 30 seats 99 from 479 to 481", 4, 43);
        badMountain("lift a p1 p0 takes 30 seats 99 from 9 to 9", 4, 41);
        badMountain("lift a p1 p0 takes 30 seats 99 from 9 to 8", 4, 41);
        badMountain("lift a p1 p0 takes 30 seats 99 from 9 to 10 gate gate", 2, 49);
        badMountain("lift a p1 p0 takes 30 seats 99 from 9 to 10", 2, 43);
        badMountain("lift a p1 p0 seats", 2, 13);
        badMountain("run a p1 p0 takes", 2, 12);
        badMountain("run a p1 p0 grade 4", 4, 18);
        badMountain("run a p1 p0 grade 3 takes 0", 4, 26);
        badMountain("run a p1 p0 grade 3 takes 61", 4, 26);
        badMountain("run a p1 p0 grade 3 takes 60 snow 301", 4, 34);
        badMountain("run a p1 p0 grade 3 takes 60 snow 300 gate", 2, 38);
        badMountain("run a p1 p0 grade 3 takes 60 snow 300;lift a", 3, 43);
        badMountain("run a p1 p0 grade 3 takes 60 snow 300;run a p3 p3", 3, 42);
        badMountain("run a p1 p0 grade 3 takes 60 snow -1", 2, 34);
        badMountain("home p0 ( $", 2, 8);
        due("what there is stays", x.about(2), 6);
        due("its LIFTS too", x.open(1, 60, 0), 1);
    }

    private static String runs(int many) {
        StringBuilder b = new StringBuilder();
        for (int n = 0; n < many; n++) {
            b.append("run r").append((char) ('a' + n)).append(" p1 p0 grade 0 takes 60 snow 300;");
        }
        return b.toString();
    }

    private static String lifts(int many) {
        StringBuilder b = new StringBuilder();
        for (int n = 0; n < many; n++) {
            b.append("lift l").append((char) ('a' + n)).append(" p1 p0 takes 30 seats 99 from 479 to 480;");
        }
        return b.toString();
    }

    private static void mountainLimits() {
        fresh(lifts(6) + "home p9;" + runs(7));
        due("LIFT 5", x.open(5, 479, 0), 1);
        due("LIFT 6", x.open(6, 479, 0), NONE);
        due("RUN 16", x.open(16, 0, 0), 1);
        due("RUN 17", x.open(17, 0, 0), NONE);
        due("WAY 9", x.open(9, 0, 0), NONE);
        due("lines", x.about(2), 14);
        badMountain(lifts(7), 2, lifts(6).length());
        badMountain(runs(8), 2, runs(7).length());
        badMountain(runs(7) + lifts(6) + " run", 2, (runs(7) + lifts(6)).length() + 1);
    }

    private static void mountainForgets() {
        fresh(ALP);
        x.skier(1);
        x.pass(0, 1, 70);
        x.turn(0);
        x.make(0, 20);
        x.arrive(0, 3);
        x.weather(0, 10, 0);
        x.later(5);
        due("a LAW", Check.law(x, "shut run if hour=1;"), 1);
        x.day(5);
        due("a day", x.wait(0, 0, 1), 1);
        due("a bad text", Check.mountain(x, "lift"), NONE);
        due("PASSES stay at a FAULT", x.about(5), 1);
        due("the day stays at a FAULT", x.wait(0, 0, 1), 1);
        due("TURNS stay at a FAULT", x.turn(0), 2);
        due("told again", Check.mountain(x, ALP), 6);
        due("no PASSES", x.about(5), 0);
        due("no PASS to take back", x.unpass(0), false);
        due("no day", x.wait(0, 0, 1), NONE);
        due("no day for snow", x.snow(0, 0), NONE);
        due("no day for took", x.took(0, 0), NONE);
        due("no TURNS", x.turn(0), 1);
        due("no MAKERS", x.day(5) * 0 + x.snow(0, 0), 500);
        due("SKIERS stay", x.about(4), 1);
        due("WEATHER stays", x.air(3, 0, 5), 10);
        due("ARRIVALS stay", x.about(6), 1);
        due("TIME stays", x.about(7), 5);
        due("LAW stays", x.open(10, 60, 0), 0);
        due("the SKIER has no PASS now", x.can(0, 0, 540, 5), 1);
        due("PASSES from 0 again", x.pass(0, 1, 9), 0);
    }

    // ---- 5

    private static void lawText() {
        fresh(ALP);
        due("two lines", Check.law(x, "shut run if grade=3;shut lift if 0<takes-5;"), 2);
        due("LIFT of 10", x.open(0, 60, 0), 0);
        due("LIFT of 5", x.open(1, 60, 0), 1);
        due("RUN of grade 3", x.open(11, 0, 0), 0);
        due("RUN of grade 2", x.open(12, 0, 0), 1);
        due("one line", Check.law(x, "shut lift if takes=10;"), 1);
        due("no law for RUNS now", x.open(11, 0, 0), 1);
        x.day(0);
        due("a FAULT", Check.law(x, "shut lift if ;"), NONE);
        due("that there is stays", x.open(0, 60, 0), 0);
        due("the day stays at a FAULT", x.wait(0, 0, 0), 0);
        due("no law", Check.law(x, ""), 0);
        due("all OPEN", x.open(0, 60, 0), 1);
        due("no day then", x.wait(0, 0, 0), NONE);
        due("the TAPE is empty", x.about(8), 0);
        due("PASSES, SKIERS stay", x.skier(3) * 10 + x.pass(0, 1, 60), 0);
        due("law again", Check.law(x, "shut run if 1=1;"), 1);
        due("PASSES stay", x.about(5), 1);
        due("MOUNTAIN stays", x.about(2), 6);
    }

    private static void badLaw(String text, int fault, int place) {
        due("lines of " + text, Check.law(x, text), NONE);
        due("fault of " + text, x.fault(0), fault);
        due("place of " + text, x.fault(1), place);
        due("TAPE behind " + text, x.about(8), 0);
    }

    private static void lawFaults() {
        fresh(ALP);
        due("a LAW", Check.law(x, "shut run if 1=1;"), 1);
        badLaw("shut", 2, 4);
        badLaw("run", 2, 0);
        badLaw("shut home", 2, 5);
        badLaw("shut run run", 2, 9);
        badLaw("shut run if", 2, 11);
        badLaw("shut run if 1", 2, 13);
        badLaw("shut run if 1<", 2, 14);
        badLaw("shut run if 1<2", 2, 15);
        badLaw("shut run if 1<2;shut", 2, 20);
        badLaw("shut run if 1<2;shut run", 2, 21);
        badLaw("shut run if 1<2;shut lift if 1<2;shut lift", 2, 38);
        badLaw("shut run if 1<2;shut lift if 1<2;lift", 2, 33);
        badLaw("shut run if 1+<2;", 2, 14);
        badLaw("shut run if +1<2;", 2, 12);
        badLaw("shut run if 1<2<3;", 2, 15);
        badLaw("shut run if 1<2 3;", 2, 16);
        badLaw("shut run if 1<2 not 1<2;", 2, 16);
        badLaw("shut run if 1<2 or;", 2, 18);
        badLaw("shut run if 1<2 and or", 2, 20);
        badLaw("shut run if not;", 2, 15);
        badLaw("shut run if ();", 2, 13);
        badLaw("shut run if (1)<2;", 2, 14);
        badLaw("shut run if (1<2;", 2, 16);
        badLaw("shut run if 1<2);", 2, 15);
        badLaw("shut run if rain<2;", 2, 12);
        badLaw("shut run if seats<2;", 2, 12);
        badLaw("shut run if p1<2;", 2, 12);
        badLaw("shut run if hour<12345;", 1, 17);
        badLaw("shut run if hour<1x;", 1, 17);
        badLaw("shut run if hour<freshly;", 2, 17);
        badLaw("shut run if hour<freshsnow;", 1, 17);
        badLaw("shut run if hour!2;", 1, 16);
        badLaw("shut lift if snow<5;", 6, 13);
        badLaw("shut lift if 5>grade;", 6, 15);
        badLaw("shut lift if 5>grade", 6, 15);
        badLaw("shut run if snow<5;shut lift if (wind>5 or not 7-grade=1);", 6, 49);
        due("that there is stays", x.open(10, 0, 0), 0);
        due("no letter behind P", Check.law(x, "shut run if hour<9or wind<1 and(not(1<2));"), NONE);
        due("no letter behind N", x.fault(1), 17);
        due("blanks not needed", Check.law(x, "shut run if hour<9 or wind<1 and(not(1<2));"), 1);
    }

    private static String times(String one, int many) {
        StringBuilder b = new StringBuilder();
        for (int n = 0; n < many; n++) {
            b.append(one);
        }
        return b.toString();
    }

    private static void lawLimits() {
        fresh(ALP);
        String head = "shut run if ";
        due("7 in one another", Check.law(x, head + times("(", 7) + "1<2" + times(")", 7) + ";"), 1);
        badLaw(head + times("(", 8) + "1<2" + times(")", 8) + ";", 2, head.length() + 7);
        due("7 nots", Check.law(x, head + times("not ", 7) + "1<2;"), 1);
        due("odd", x.open(10, 0, 0), 1);
        due("6 nots", Check.law(x, head + times("not ", 6) + "1<2;"), 1);
        due("even", x.open(10, 0, 0), 0);
        badLaw(head + times("not ", 8) + "1<2;", 2, head.length() + 28);
        due("both mixed", Check.law(x, head + "not(not((not(1=2))));"), 1);
        due("both mixed holds for", x.open(10, 0, 0), 0);
        badLaw(head + "not(not((not(1=2)))) and not(not((not((1=2", 2, head.length() + 38);
        badLaw(head + "not(not((not(1=2)))) and not(not((not(not 1=2", 2, head.length() + 38);
        due("others beside do not count", Check.law(x, head + times("(1<2)and ", 10) + times("not ", 7) + "1<2;"), 1);
        due("40 units", Check.law(x, head + times("1+", 38) + "1=39;"), 1);
        due("they hold", x.open(10, 0, 0), 0);
        badLaw(head + times("1+", 39) + "1=39;", 2, head.length() + 80);
        due("40 units in two lines", Check.law(x, head + times("1+", 18) + "1=19;shut lift if "
            + times("1+", 18) + "1=18;"), 2);
        due("RUNS shut", x.open(10, 0, 0), 0);
        due("LIFTS not", x.open(0, 0, 0), 1);
        String two = head + times("1+", 18) + "1=19;shut lift if " + times("1+", 19) + "1=";
        badLaw(two + "hour;", 2, two.length());
        badLaw(two + "snow;", 2, two.length());
        badLaw(two + "$", 1, two.length());
        due("500 bytes", Check.law(x, head + "1<2;" + times(" ", 484)), 1);
        due("501 bytes", Check.law(x, head + "1<2 " + times("\n", 485)), -2);
        due("the TAPE stays", x.about(8), 501);
        due("no FAULT of it", x.fault(0), 0);
        due("the LAW stays", x.open(10, 0, 0), 0);
        x.end(500);
        due("500 of them", x.law(), NONE);
        due("its FAULT", x.fault(0) * 1000 + x.fault(1), 2500);
    }

    private static void lawHolds(String e, int minute, boolean want) {
        due("law of " + e, Check.law(x, "shut run if " + e + ";"), 1);
        due(e + " at " + minute, x.open(10, minute, 0) == 0, want);
    }

    private static void lawValues() {
        fresh("run a p1 p0 grade 2 takes 7 snow 40;");
        x.weather(1, 33, 5);
        x.weather(3, 21, 7);
        lawHolds("hour=0", 59, true);
        lawHolds("hour=1", 59, false);
        lawHolds("hour=7", 479, true);
        lawHolds("wind=0", 0, true);
        lawHolds("wind=33", 60, true);
        lawHolds("wind=33", 120, true);
        lawHolds("wind=21", 479, true);
        lawHolds("fresh=5", 60, true);
        lawHolds("fresh=0", 120, true);
        lawHolds("fresh=7", 180, true);
        lawHolds("snow=40", 59, true);
        lawHolds("snow=45", 60, true);
        lawHolds("snow=45", 179, true);
        lawHolds("snow=52", 180, true);
        lawHolds("snow=52", 479, true);
        lawHolds("grade=2", 0, true);
        lawHolds("takes=7", 0, true);
        lawHolds("10-3-2=5", 0, true);
        lawHolds("10-3+2=9", 0, true);
        lawHolds("0-9999-1<0-9999", 0, true);
        lawHolds("1<1", 0, false);
        lawHolds("2>1", 0, true);
        lawHolds("1>1", 0, false);
        lawHolds("1=1 or 1=1 and 1=2", 0, true);
        lawHolds("(1=1 or 1=1) and 1=2", 0, false);
        lawHolds("1=2 and 1=1 or 1=1", 0, true);
        lawHolds("not 1=2 and 1=2", 0, false);
        lawHolds("not (1=2 and 1=2)", 0, true);
        lawHolds("not 1=1 or 1=1", 0, true);
        lawHolds("not not 1=1", 0, true);
    }

    // ---- 6

    private static void faultOfBoth() {
        x = new SkiMountain();
        badMountain("lift a p0 p0", 5, 10);
        due("a law without", Check.law(x, ""), 0);
        due("fault of the latest", x.fault(0), 0);
        due("its place", x.fault(1), NONE);
        badLaw("shut if", 2, 5);
        due("other what", x.fault(2), NONE);
        due("below", x.fault(-1), NONE);
        due("MIN", x.fault(MIN), NONE);
        Check.tape(x, Check.bytes(times(" ", 501)));
        due("too long", x.law(), -2);
        due("stays", x.fault(0), 2);
        due("its place stays", x.fault(1), 5);
        due("a mountain of blanks", x.mountain(), 0);
        due("without", x.fault(0), 0);
    }

    // ---- 7 .. 10

    private static void weather() {
        x = new SkiMountain();
        due("hour 8", x.weather(8, 0, 0), NONE);
        due("hour -1", x.weather(-1, 0, 0), NONE);
        due("wind 100", x.weather(0, 100, 0), NONE);
        due("wind -1", x.weather(0, -1, 0), NONE);
        due("fresh 41", x.weather(0, 0, 41), NONE);
        due("fresh -1", x.weather(0, 0, -1), NONE);
        due("none told", x.about(3), 0);
        due("first", x.weather(7, 99, 40), 0);
        due("second", x.weather(0, 0, 0), 1);
        due("two told", x.about(3), 2);
        due("wind", x.air(7, 0, 0), 99);
        due("fresh", x.air(7, 1, 0), 40);
    }

    private static void weatherLimits() {
        x = new SkiMountain();
        for (int n = 0; n < 60; n++) {
            due("weather " + n, x.weather(n % 8, n, n % 41), n);
        }
        due("61st", x.weather(0, 1, 1), NONE);
        due("60 told", x.about(3), 60);
        due("the last told of HOUR 3", x.air(3, 0, 0), 59);
        due("the last told of HOUR 4", x.air(4, 0, 0), 52);
        due("untold", x.untell(59), true);
        due("still 60", x.weather(0, 1, 1), NONE);
        due("the one ahead", x.air(3, 0, 0), 51);
    }

    private static void untell() {
        x = new SkiMountain();
        x.weather(2, 50, 9);
        x.later(10);
        x.weather(2, 70, 3);
        x.later(10);
        due("untell -1", x.untell(-1), false);
        due("untell 2", x.untell(2), false);
        due("untell MAX", x.untell(MAX), false);
        due("untell 1", x.untell(1), true);
        due("again", x.untell(1), false);
        due("ahead of all", x.air(2, 0, -1), 0);
        due("k MIN", x.air(2, 0, MIN), 0);
        due("at 0", x.air(2, 0, 0), 50);
        due("at 9", x.air(2, 0, 9), 50);
        due("at 10", x.air(2, 0, 10), 70);
        due("at 19", x.air(2, 1, 19), 3);
        due("at 20", x.air(2, 1, 20), 9);
        due("at MAX", x.air(2, 0, MAX), 50);
        due("the older one", x.untell(0), true);
        due("none at 20", x.air(2, 0, 20), 0);
        due("as it was", x.air(2, 0, 19), 70);
        due("told and untold at one TIME", x.weather(0, 5, 5), 2);
        due("it counts", x.air(0, 0, 20), 5);
        due("untold", x.untell(2), true);
        due("it never counts", x.air(0, 0, 20) + x.air(0, 0, MAX), 0);
    }

    private static void later() {
        x = new SkiMountain();
        due("0", x.later(0), 0);
        due("-1", x.later(-1), NONE);
        due("1001", x.later(1001), NONE);
        due("MAX", x.later(MAX), NONE);
        due("MIN", x.later(MIN), NONE);
        for (int n = 1; n < 100; n++) {
            due("1000 more", x.later(1000), 1000 * n);
        }
        due("999", x.later(999), 99999);
        due("above", x.later(2), NONE);
        due("as it was", x.about(7), 99999);
        due("to the end", x.later(1), 100000);
        due("no more", x.later(1), NONE);
        due("0 more", x.later(0), 100000);
    }

    private static void air() {
        x = new SkiMountain();
        x.weather(2, 50, 9);
        x.weather(4, 0, 0);
        due("ahead", x.air(1, 0, 0), 0);
        due("told", x.air(2, 0, 0), 50);
        due("behind", x.air(3, 0, 0), 50);
        due("fresh behind", x.air(3, 1, 0), 0);
        due("0 told", x.air(4, 0, 0), 0);
        due("0 behind", x.air(7, 0, 0), 0);
        due("hour -1", x.air(-1, 0, 0), NONE);
        due("hour 8", x.air(8, 0, 0), NONE);
        due("what 2", x.air(0, 2, 0), NONE);
        due("what -1", x.air(0, -1, 0), NONE);
    }

    // ---- 11

    private static void open() {
        fresh(ALP);
        due("from", x.open(1, 60, 0), 1);
        due("ahead of it", x.open(1, 59, 0), 0);
        due("the last", x.open(1, 299, 0), 1);
        due("to", x.open(1, 300, 0), 0);
        due("RUN", x.open(12, 479, 0), 1);
        due("RUN at 480", x.open(12, 480, 0), 0);
        due("481", x.open(12, 481, 0), NONE);
        due("-1", x.open(12, -1, 0), NONE);
        due("WAY 2", x.open(2, 0, 0), NONE);
        due("WAY 13", x.open(13, 0, 0), NONE);
        due("WAY -1", x.open(-1, 0, 0), NONE);
        due("WAY MAX", x.open(MAX, 0, 0), NONE);
        Check.law(x, "shut lift if wind>40;");
        x.later(3);
        x.weather(1, 41, 0);
        due("not known yet", x.open(0, 60, 2), 1);
        due("known", x.open(0, 60, 3), 0);
        due("an HOUR ahead", x.open(0, 59, 3), 1);
        due("all behind", x.open(0, 399, 3), 0);
        x.untell(0);
        due("untold", x.open(0, 60, 3), 1);
    }

    // ---- 12 .. 14

    private static void soonest() {
        fresh(ALP);
        due("there", x.soonest(0, 1, 33, 1, 0), 33);
        due("by LIFT", x.soonest(0, 0, 7, 1, 0), 17);
        due("waiting", x.soonest(0, 0, 7, 2, 0), 65);
        due("not waiting", x.soonest(0, 1, 61, 2, 0), 66);
        due("too late", x.soonest(0, 1, 300, 2, 0), NONE);
        due("the last MINUTE", x.soonest(0, 1, 299, 2, 0), 304);
        due("too steep", x.soonest(0, 1, 0, 0, 0), NONE);
        due("a grade that fits", x.soonest(1, 1, 0, 0, 0), 20);
        due("a grade above", x.soonest(2, 1, 0, 0, 0), 15);
        due("two above", x.soonest(3, 1, 0, 0, 0), 10);
        due("two RUNS", x.soonest(3, 2, 471, 0, 0), 489);
        due("30 less a quarter, cut", x.soonest(3, 2, 472, 0, 0), 495);
        due("at 479 by one", x.soonest(3, 2, 479, 0, 0), 502);
        due("at 480", x.soonest(3, 2, 480, 0, 0), NONE);
        due("nothing there", x.soonest(3, 2, 0, 5, 0), NONE);
        due("skill 4", x.soonest(4, 0, 0, 0, 0), NONE);
        due("skill -1", x.soonest(-1, 0, 0, 0, 0), NONE);
        due("from 10", x.soonest(0, 10, 0, 0, 0), NONE);
        due("to -1", x.soonest(0, 0, 0, -1, 0), NONE);
        due("minute 481", x.soonest(0, 0, 481, 0, 0), NONE);
        due("minute -1", x.soonest(0, 0, -1, 0, 0), NONE);
        Check.law(x, "shut lift if hour=1 or hour=2;shut run if grade=1 and hour<2;");
        due("waits out what is SHUT", x.soonest(0, 0, 60, 1, 0), 190);
        due("a RUN too", x.soonest(1, 1, 10, 0, 0), 140);
        due("begun ahead", x.soonest(0, 0, 59, 1, 0), 69);
        for (int takes = 1; takes <= 9; takes++) {
            fresh("run r p1 p0 grade 0 takes " + takes + " snow 0;");
            for (int skill = 0; skill < 4; skill++) {
                int want = takes - takes * skill / 4;
                due("takes " + takes + " by skill " + skill, x.soonest(skill, 1, 100, 0, 0), 100 + want);
            }
        }
    }

    private static void way() {
        fresh(ALP);
        due("first", x.way(3, 0, 5, 2, 0, 0), 0);
        // T is 65: the LIFT is waited for at home by going round as long as it fits
        due("soonest", x.soonest(3, 0, 5, 2, 0), 65);
        due("none below", x.way(3, 0, 5, 2, -1, 0), NONE);
        due("none there", x.way(3, 0, 5, 0, 0, 0), NONE);
        due("no way", x.way(1, 2, 70, 0, 0, 0), NONE);
        due("skill 4", x.way(4, 0, 0, 1, 0, 0), NONE);
        due("from -1", x.way(0, -1, 0, 1, 0, 0), NONE);
        due("to 10", x.way(0, 0, 0, 10, 0, 0), NONE);
        due("minute 481", x.way(0, 0, 481, 1, 0, 0), NONE);
        due("minute 480", x.way(0, 0, 480, 1, 0, 0), NONE);
        due("two RUNS", x.way(3, 2, 471, 0, 0, 0), 11);
        due("no time for two", x.way(3, 2, 472, 0, 0, 0), 12);
        due("the second", x.way(3, 2, 471, 0, 1, 0), 10);
        due("behind the end", x.way(3, 2, 471, 0, 2, 0), NONE);
        due("too late for the second", x.way(3, 2, 479, 0, 0, 0), 12);
        due("n MAX", x.way(3, 2, 479, 0, MAX, 0), NONE);
    }

    /** While a LIFT is waited for, a WAY of a lower number is taken round and round. */
    private static void wayGoesRound() {
        fresh("lift up p0 p1 takes 1 seats 1 from 0 to 480;lift down p1 p0 takes 2 seats 1 from 0 to 480;"
            + "lift top p1 p2 takes 4 seats 1 from 10 to 20;run r p2 p3 grade 0 takes 3 snow 0;");
        due("soonest", x.soonest(0, 0, 0, 3, 0), 17);
        int[] row = {0, 1, 0, 1, 0, 1, 0, 2, 10};
        for (int n = 0; n < row.length; n++) {
            due("way " + n, x.way(0, 0, 0, 3, n, 0), row[n]);
        }
        due("way 9", x.way(0, 0, 0, 3, 9, 0), NONE);
        fresh("lift up p0 p1 takes 1 seats 1 from 0 to 480;lift down p1 p0 takes 1 seats 1 from 0 to 480;"
            + "lift top p1 p2 takes 30 seats 1 from 479 to 480;");
        due("soonest far", x.soonest(0, 0, 0, 2, 0), 509);
        due("way 477", x.way(0, 0, 0, 2, 477, 0), 1);
        due("way 478", x.way(0, 0, 0, 2, 478, 0), 0);
        due("way 479", x.way(0, 0, 0, 2, 479, 0), 2);
        due("way 480", x.way(0, 0, 0, 2, 480, 0), NONE);
    }

    private static void last() {
        fresh(ALP);
        due("home", x.last(0, 0, 0), 480);
        due("by a RUN", x.last(1, 1, 0), 479);
        due("too steep", x.last(0, 1, 0), NONE);
        due("two RUNS or one", x.last(3, 2, 0), 479);
        due("nothing there", x.last(3, 5, 0), NONE);
        due("skill 4", x.last(4, 0, 0), NONE);
        due("p 10", x.last(0, 10, 0), NONE);
        due("p -1", x.last(0, -1, 0), NONE);
        Check.law(x, "shut run if hour=7 or grade=2;");
        due("SHUT in the last HOUR", x.last(3, 1, 0), 419);
        due("two RUNS", x.last(3, 2, 0), 411);
        fresh("lift a p1 p2 takes 9 seats 1 from 20 to 31;lift b p2 p3 takes 5 seats 1 from 35 to 36;home p3;");
        due("both LIFTS", x.last(0, 1, 0), 26);
        due("the second", x.last(0, 2, 0), 35);
        fresh("lift a p1 p2 takes 9 seats 1 from 28 to 31;lift b p2 p3 takes 5 seats 1 from 35 to 36;home p3;");
        due("not in time", x.last(0, 1, 0), NONE);
    }

    // ---- 15 .. 21

    private static void skier() {
        x = new SkiMountain();
        due("skill 4", x.skier(4), NONE);
        due("skill -1", x.skier(-1), NONE);
        for (int n = 0; n < 8; n++) {
            due("skier " + n, x.skier(n % 4), n);
        }
        due("a 9th", x.skier(0), NONE);
        due("8", x.about(4), 8);
        due("at home", x.can(7, 0, 0, 0), 1);
        due("there to the end", x.can(7, 0, 540, MIN), 1);
        due("nowhere else", x.can(7, 1, 540, 0), 0);
    }

    private static void pass() {
        fresh(ALP);
        due("no SKIER", x.pass(0, 1, 60), NONE);
        x.skier(3);
        due("SKIER -1", x.pass(-1, 1, 60), NONE);
        due("no gate", x.pass(0, 0, 60), NONE);
        due("LIFT 2", x.pass(0, 2, 60), NONE);
        due("LIFT -1", x.pass(0, -1, 60), NONE);
        due("a RUN", x.pass(0, 10, 60), NONE);
        due("MINUTE 480", x.pass(0, 1, 480), NONE);
        due("MINUTE -1", x.pass(0, 1, -1), NONE);
        due("none told", x.about(5), 0);
        for (int n = 0; n < 100; n++) {
            due("pass " + n, x.pass(0, 1, n == 0 ? 479 : 70), n);
        }
        due("a 101st", x.pass(0, 1, 70), NONE);
        due("100", x.about(5), 100);
        due("the same one often is one", x.can(0, 2, 75, 0), 1);
        due("off duty or not", x.can(0, 2, 484, 0), 1);
        due("that one got on is enough", x.canOn(0, 1, 483, 0), 1);
        due("not ahead of it", x.can(0, 2, 480, 0), 0);
    }

    private static void unpass() {
        fresh(ALP);
        x.skier(3);
        x.pass(0, 1, 70);
        x.later(4);
        due("-1", x.unpass(-1), false);
        due("1", x.unpass(1), false);
        due("0", x.unpass(0), true);
        due("again", x.unpass(0), false);
        due("as known before", x.can(0, 2, 75, 3), 1);
        due("as known then", x.can(0, 2, 75, 4), 0);
        due("told again", x.pass(0, 1, 71), 1);
        due("the new one", x.can(0, 2, 76, 4), 1);
        due("not known before", x.can(0, 2, 75, 3), 1);
        due("ahead of all", x.can(0, 2, 75, -1), 0);
        due("untold at once", x.unpass(1), true);
        due("known at once", x.can(0, 2, 76, 4), 0);
    }

    private static void can() {
        fresh(ALP);
        x.skier(1);
        x.skier(3);
        x.pass(0, 1, 70);
        due("stands at the end", x.can(0, 2, 75, 0), 1);
        due("not yet", x.can(0, 2, 74, 0), 0);
        due("at the beginning", x.can(0, 1, 70, 0), 1);
        due("not behind it", x.can(0, 1, 71, 0), 0);
        due("home ahead of it", x.can(0, 0, 60, 0), 1);
        due("too late to come up", x.can(0, 0, 61, 0), 0);
        due("stays there: too steep", x.can(0, 0, 540, 0), 0);
        due("another without a PASS", x.can(1, 2, 75, 0), 0);
        x.pass(1, 1, 90);
        due("home behind it", x.can(1, 0, 113, 0), 1);
        due("home behind it by 8 and 10", x.can(1, 0, 112, 0), 0);
        due("no SKIER 2", x.can(2, 0, 0, 0), NONE);
        due("no SKIER -1", x.can(-1, 0, 0, 0), NONE);
        due("P 10", x.can(0, 10, 0, 0), NONE);
        due("P -1", x.can(0, -1, 0, 0), NONE);
        due("MINUTE 541", x.can(0, 0, 541, 0), NONE);
        due("MINUTE -1", x.can(0, 0, -1, 0), NONE);
        x.pass(1, 1, 94);
        due("one in the other", x.can(1, 0, 0, 0), 0);
        due("nowhere at the end", x.can(1, 0, 540, 0), 0);
        x.unpass(2);
        x.pass(1, 1, 113);
        due("down and at once up again", x.can(1, 2, 118, 0), 1);
        due("by the steep RUN", x.canOn(1, 11, 100, 0), 1);
        x.unpass(3);
        x.pass(1, 1, 102);
        due("not in time for the other", x.can(1, 0, 0, 0), 0);
        Check.law(x, "shut run if grade=3;");
        due("as OPEN", x.can(0, 2, 75, 0), 1);
    }

    private static void canClash() {
        fresh("lift a p0 p1 takes 3 seats 1 from 0 to 480 gate;lift b p0 p2 takes 3 seats 1 from 0 to 480 gate;");
        x.skier(0);
        x.pass(0, 0, 9);
        x.pass(0, 0, 9);
        due("twice the same", x.can(0, 1, 12, 0), 1);
        x.pass(0, 1, 9);
        due("two LIFTS at one MINUTE: p1", x.can(0, 1, 12, 0), 0);
        due("two LIFTS at one MINUTE: p2", x.can(0, 2, 12, 0), 0);
        due("two LIFTS at one MINUTE: home", x.places(0, 0, 0) + x.places(0, 540, 0), 0);
        x.pass(0, 1, 9);
        due("one of them twice", x.places(0, 9, 0), 0);
        x.unpass(0);
        x.unpass(1);
        due("the other left", x.can(0, 2, 12, 0), 1);
        x.unpass(2);
        x.unpass(3);
        due("home again", x.can(0, 0, 540, 0), 1);
        x.pass(0, 0, 9);
        x.pass(0, 1, 11);
        due("while he is on the other", x.places(0, 10, 0), 0);
        x.unpass(5);
        x.pass(0, 1, 12);
        due("from where he is not", x.places(0, 10, 0), 0);
    }

    private static void canOn() {
        fresh(ALP);
        x.skier(1);
        x.pass(0, 1, 70);
        due("as it begins", x.canOn(0, 1, 70, 0), 1);
        due("ahead", x.canOn(0, 1, 69, 0), 0);
        due("its last", x.canOn(0, 1, 74, 0), 1);
        due("behind", x.canOn(0, 1, 75, 0), 0);
        due("may ride up first", x.canOn(0, 0, 0, 0), 1);
        due("must be up", x.canOn(0, 0, 69, 0), 1);
        due("must be up at 70", x.canOn(0, 0, 70, 0), 0);
        due("down and up again", x.canOn(0, 10, 59, 0), 1);
        due("not down any more", x.canOn(0, 10, 60, 0), 0);
        due("too steep", x.canOn(0, 11, 80, 0), 0);
        due("WAY 2", x.canOn(0, 2, 0, 0), NONE);
        due("WAY 13", x.canOn(0, 13, 0, 0), NONE);
        due("WAY -1", x.canOn(0, -1, 0, 0), NONE);
        due("SKIER 1", x.canOn(1, 0, 0, 0), NONE);
        due("MINUTE 541", x.canOn(0, 0, 541, 0), NONE);
        due("MINUTE -1", x.canOn(0, 0, -1, 0), NONE);
        fresh("run r p0 p1 grade 0 takes 60 snow 0;");
        x.skier(0);
        due("to the last MINUTE", x.canOn(0, 10, 538, 0), 1);
        due("ended", x.canOn(0, 10, 539, 0), 0);
        due("stands below", x.can(0, 1, 539, 0), 1);
        due("stands below from 60 on", x.can(0, 1, 60, 0) * 10 + x.can(0, 1, 59, 0), 10);
    }

    private static void canWithoutGates() {
        fresh("lift a p0 p1 takes 3 seats 1 from 5 to 7;lift b p1 p2 takes 2 seats 1 from 8 to 9;home p0;");
        x.skier(0);
        int[] one = {0, 0, 0, 0, 0, 0, 0, 0, 1, 1};
        int[] two = {0, 0, 0, 0, 0, 0, 0, 0, 0, 0, 1, 1};
        for (int m = 0; m < one.length; m++) {
            due("p1 at " + m, x.can(0, 1, m, 0), one[m]);
        }
        for (int m = 0; m < two.length; m++) {
            due("p2 at " + m, x.can(0, 2, m, 0), two[m]);
        }
        int[] onA = {0, 0, 0, 0, 0, 1, 1, 1, 1, 0};
        for (int m = 0; m < onA.length; m++) {
            due("on a at " + m, x.canOn(0, 0, m, 0), onA[m]);
        }
        due("on b", x.canOn(0, 1, 8, 0) + x.canOn(0, 1, 9, 0), 2);
        due("on b behind", x.canOn(0, 1, 10, 0), 0);
        due("places at 8", x.places(0, 8, 0), 4);
        Check.law(x, "shut lift if wind>0;");
        x.later(1);
        x.weather(0, 1, 0);
        due("SHUT", x.can(0, 1, 8, 1), 0);
        due("not known", x.can(0, 1, 8, 0), 1);
    }

    private static void places() {
        fresh(ALP);
        x.skier(1);
        due("home alone or up", x.places(0, 0, 0), 2);
        due("all that is known", x.places(0, 100, 0), 4);
        due("at the end", x.places(0, 540, 0), 2);
        x.pass(0, 1, 70);
        due("with a PASS", x.places(0, 70, 0), 2);
        due("on it", x.places(0, 72, 0), 1);
        x.pass(0, 1, 71);
        due("nowhere", x.places(0, 72, 0), 0);
        due("no SKIER", x.places(1, 0, 0), NONE);
        due("no MINUTE", x.places(0, 541, 0), NONE);
        due("no MINUTE -1", x.places(0, -1, 0), NONE);
    }

    private static void meet() {
        fresh(ALP);
        x.skier(1);
        x.skier(3);
        x.pass(0, 1, 70);
        x.pass(1, 1, 90);
        due("at the top", x.meet(0, 1, 2, 0, 0), 95);
        due("later", x.meet(1, 0, 2, 200, 0), 200);
        due("at the very end", x.meet(0, 1, 2, 540, 0), 540);
        due("in the middle", x.meet(0, 1, 1, 0, 0), 10);
        due("not behind", x.meet(0, 1, 1, 71, 0), NONE);
        due("at home at first", x.meet(0, 1, 0, 0, 0), 0);
        due("never", x.meet(0, 1, 7, 0, 0), NONE);
        due("not two", x.meet(1, 1, 0, 0, 0), NONE);
        due("no SKIER 2", x.meet(0, 2, 0, 0, 0), NONE);
        due("no SKIER -1", x.meet(-1, 0, 0, 0, 0), NONE);
        due("P 10", x.meet(0, 1, 10, 0, 0), NONE);
        due("P -1", x.meet(0, 1, -1, 0, 0), NONE);
        due("MINUTE 541", x.meet(0, 1, 0, 541, 0), NONE);
        due("MINUTE -1", x.meet(0, 1, 0, -1, 0), NONE);
        due("as known ahead", x.meet(0, 1, 2, 0, -1), NONE);
    }

    // ---- 22 .. 28

    private static void arrive() {
        x = new SkiMountain();
        due("MINUTE 480", x.arrive(480, 1), NONE);
        due("MINUTE -1", x.arrive(-1, 1), NONE);
        due("none", x.arrive(0, 0), NONE);
        due("501", x.arrive(0, 501), NONE);
        due("none told", x.about(6), 0);
        for (int n = 1; n <= 20; n++) {
            due("arrive " + n, x.arrive(n == 1 ? 479 : 0, n == 2 ? 500 : 1), n);
        }
        due("a 21st", x.arrive(0, 1), NONE);
        due("20", x.about(6), 20);
        due("all at home", x.day(0), 519);
        due("at first", x.wait(0, 478, 0), 518);
    }

    private static void turn() {
        fresh(ALP);
        due("WAY 2", x.turn(2), NONE);
        due("WAY 9", x.turn(9), NONE);
        due("WAY 13", x.turn(13), NONE);
        due("WAY -1", x.turn(-1), NONE);
        for (int n = 1; n <= 6; n++) {
            due("turn of p1 " + n, x.turn(n % 2 == 0 ? 1 : 10), n);
        }
        due("a 7th", x.turn(1), NONE);
        due("of another P", x.turn(0), 1);
        due("of a third", x.turn(12), 1);
    }

    private static void make() {
        fresh(ALP);
        due("RUN 3", x.make(3, 0), false);
        due("RUN -1", x.make(-1, 0), false);
        due("by its own number", x.make(10, 0), false);
        due("21", x.make(0, 21), false);
        due("-1", x.make(0, -1), false);
        due("20", x.make(2, 20), true);
        x.day(0);
        due("each MINUTE", x.snow(2, 9), 1200);
        due("other RUNS not", x.snow(1, 479), 0);
        due("0 again", x.make(2, 0), true);
        x.day(0);
        due("no more", x.snow(2, 479), 1000);
    }

    private static void day() {
        fresh("lift a p0 p1 takes 2 seats 3 from 0 to 5;run r p1 p0 grade 0 takes 2 snow 2;home p0;");
        x.arrive(0, 10);
        x.turn(0);
        x.turn(10);
        due("home at the end", x.day(0), 8);
        int[] queued = {7, 4, 1, 0, 0, 0};
        int[] atHome = {0, 0, 0, 0, 0, 3, 6, 7, 8};
        for (int m = 0; m < queued.length; m++) {
            due("queued at " + m, x.wait(0, m, 1), queued[m]);
        }
        for (int m = 0; m < atHome.length; m++) {
            due("undecided at " + m, x.wait(0, m, 0), atHome[m]);
        }
        due("snow ends", x.wait(1, 6, 0), 2);
        due("at 9 mm", x.snow(0, 6), 9);
        fresh("lift a p3 p1 takes 30 seats 1 from 400 to 480;home p3;");
        x.arrive(100, 90);
        x.turn(0);
        due("queued are home too until off duty", x.day(0), 10);
        due("queued from 100 on", x.wait(3, 100, 1), 90);
        due("the last MINUTE", x.wait(3, 479, 1), 0);
        due("undecided then", x.wait(3, 479, 0), 10);
        due("queued ahead of it", x.wait(3, 478, 1), 11);
        due("LONGEST", x.took(0, 1), 90);
        due("took it", x.took(0, 0), 80);
        due("a day again", x.day(0), 10);
        due("took it once", x.took(0, 0), 80);
    }

    private static void turnsGoOn() {
        fresh("run a p0 p1 grade 0 takes 60 snow 300;run b p0 p2 grade 0 takes 60 snow 1;"
            + "run c p0 p3 grade 3 takes 60 snow 300;");
        x.turn(10);
        x.turn(11);
        x.turn(12);
        x.turn(10);
        x.arrive(0, 2);
        x.arrive(1, 1);
        x.arrive(2, 5);
        due("all gone", x.day(0), 0);
        due("a", x.took(10, 0), 5);
        due("b has snow for one", x.took(11, 0), 1);
        due("c", x.took(12, 0), 2);
        due("p1 behind 60", x.wait(1, 60, 0), 1);
        due("p1 behind 61", x.wait(1, 61, 0), 1);
        due("p3 behind 61", x.wait(3, 61, 0), 1);
        // 2: the fourth (a), the first (a), b left out: c, the fourth (a), the first (a)
        due("p1 behind 62", x.wait(1, 62, 0), 5);
        due("p3 behind 62", x.wait(3, 62, 0), 2);
        due("snow of a", x.snow(0, 2), 2995);
        due("snow of b", x.snow(1, 0), 9);
        due("LONGEST of a RUN", x.took(10, 1), 0);
    }

    /** The row goes on behind the WAY taken, whatever was left out ahead of it. */
    private static void turnsLeftOut() {
        fresh("lift a p0 p1 takes 30 seats 99 from 0 to 480;run b p0 p2 grade 0 takes 50 snow 99;"
            + "run c p0 p3 grade 0 takes 50 snow 99;");
        Check.law(x, "shut run if hour=1;");
        x.turn(0);
        x.turn(10);
        x.turn(11);
        x.arrive(0, 2);
        x.arrive(60, 1);
        x.arrive(120, 1);
        x.day(0);
        due("b took the second and the last", x.took(10, 0), 2);
        due("c none", x.took(11, 0), 0);
        due("a the others", x.took(0, 0), 2);
        x.arrive(120, 3);
        x.day(0);
        due("b", x.took(10, 0), 3);
        due("c", x.took(11, 0), 1);
        due("a", x.took(0, 0), 3);
    }

    private static void shutInTheDay() {
        fresh("lift a p0 p1 takes 1 seats 9 from 0 to 480;run r p0 p2 grade 0 takes 9 snow 9;");
        Check.law(x, "shut lift if wind>50;shut run if hour=0;");
        x.later(7);
        x.weather(0, 60, 0);
        x.weather(1, 0, 0);
        x.turn(0);
        x.turn(10);
        x.arrive(5, 4);
        due("all gone at 60", x.day(7), 0);
        due("undecided", x.wait(0, 59, 0), 4);
        due("none queued", x.wait(0, 59, 1), 0);
        due("half of them", x.took(0, 0), 2);
        due("half of them by the RUN", x.took(10, 0), 2);
        due("as known ahead", x.day(6), 0);
        due("all by the LIFT", x.took(0, 0), 4);
        due("as known again", x.day(MAX), 0);
        due("half of them", x.took(0, 0), 2);
        fresh("lift a p0 p1 takes 1 seats 9 from 0 to 121;");
        Check.law(x, "shut lift if hour=1;");
        x.turn(0);
        x.arrive(59, 12);
        x.arrive(60, 5);
        due("all gone but", x.day(0), 0);
        due("queued while SHUT", x.wait(0, 119, 1), 3);
        due("undecided while SHUT", x.wait(0, 119, 0), 5);
        due("all get on at 120", x.took(0, 0), 17);
    }

    private static void offDuty() {
        fresh("lift a p0 p1 takes 1 seats 2 from 50 to 61;lift b p0 p2 takes 1 seats 1 from 61 to 480;");
        Check.law(x, "shut lift if takes=1 and hour=1;");
        x.turn(0);
        x.arrive(0, 40);
        due("left", x.day(0), 20);
        due("off duty though SHUT", x.wait(0, 60, 0), 20);
        due("queued ahead", x.wait(0, 59, 1), 20);
        due("LONGEST", x.took(0, 1), 40);
        x.turn(1);
        due("go to the other", x.day(0), 0);
        due("at first by both", x.wait(0, 0, 1), 40);
        due("all by a while it is there", x.took(0, 0), 20);
    }

    private static void snowfall() {
        fresh("run a p0 p1 grade 0 takes 1 snow 3;run b p1 p0 grade 0 takes 1 snow 0;");
        x.weather(1, 29, 2);
        x.weather(2, 30, 0);
        x.weather(7, 0, 40);
        x.make(1, 3);
        x.day(0);
        due("begins", x.snow(0, 0), 30);
        due("the HOUR ahead", x.snow(0, 59), 30);
        due("fresh falls at once", x.snow(0, 60), 50);
        due("not again", x.snow(0, 419), 50);
        due("the last HOUR", x.snow(0, 420), 450);
        due("MAKERS", x.snow(1, 0), 3);
        due("MAKERS and fresh", x.snow(1, 60), 183 + 20);
        due("the last below 30", x.snow(1, 119), 360 + 20);
        due("wind 30", x.snow(1, 419), 360 + 20);
        due("wind 0 again", x.snow(1, 420), 363 + 420);
        x.arrive(60, 1);
        x.turn(10);
        x.day(0);
        due("worn in the same MINUTE", x.snow(0, 60), 49);
    }

    private static void waitSnowTook() {
        fresh(ALP);
        x.arrive(0, 3);
        due("no day: wait", x.wait(0, 0, 0), NONE);
        due("no day: snow", x.snow(0, 0), NONE);
        due("no day: took", x.took(0, 0), NONE);
        due("day", x.day(0), 3);
        due("wait", x.wait(0, 479, 0), 3);
        due("wait P 10", x.wait(10, 0, 0), NONE);
        due("wait P -1", x.wait(-1, 0, 0), NONE);
        due("wait MINUTE 480", x.wait(0, 480, 0), NONE);
        due("wait MINUTE -1", x.wait(0, -1, 0), NONE);
        due("wait what 2", x.wait(0, 0, 2), NONE);
        due("wait what -1", x.wait(0, 0, -1), NONE);
        due("snow", x.snow(2, 479), 1000);
        due("snow RUN 3", x.snow(3, 0), NONE);
        due("snow RUN -1", x.snow(-1, 0), NONE);
        due("snow MINUTE 480", x.snow(0, 480), NONE);
        due("snow MINUTE -1", x.snow(0, -1), NONE);
        due("took", x.took(1, 0), 0);
        due("took WAY 2", x.took(2, 0), NONE);
        due("took WAY 13", x.took(13, 0), NONE);
        due("took WAY -1", x.took(-1, 1), NONE);
        due("took what 2", x.took(0, 2), NONE);
        due("took what -1", x.took(0, -1), NONE);
        x.turn(0);
        x.make(0, 1);
        x.weather(0, 1, 1);
        x.arrive(0, 5);
        due("what was run stays", x.wait(0, 0, 0) * 10000 + x.snow(0, 0), 30500);
    }

    // ---- 29

    private static void sweep() {
        fresh(ALP);
        due("from the top", x.sweep(2, 1), 73);
        due("from home", x.sweep(0, 1), 88);
        due("from the middle", x.sweep(1, 1), 78);
        due("from nowhere", x.sweep(3, 1), NONE);
        due("from nowhere by two", x.sweep(3, 2), NONE);
        due("none", x.sweep(0, 0), NONE);
        due("three", x.sweep(0, 3), NONE);
        due("P 10", x.sweep(10, 1), NONE);
        due("P -1", x.sweep(-1, 1), NONE);
        due("asked again", x.sweep(2, 1), 73);
        fresh("run a p0 p1 grade 0 takes 1 snow 0;run b p1 p0 grade 0 takes 1 snow 0;");
        due("a ring of RUNS", x.sweep(0, 1), NONE);
        due("a ring of RUNS by two", x.sweep(1, 2), NONE);
        fresh("run a p1 p0 grade 3 takes 60 snow 0;lift l p0 p1 takes 30 seats 1 from 479 to 480 gate;");
        due("LIFTS bear them at any MINUTE", x.sweep(0, 1), 90);
        due("in full minutes", x.sweep(1, 2), 60);
        due("another MOUNTAIN", Check.mountain(x, "run a p1 p0 grade 3 takes 5 snow 0;"), 1);
        due("is asked anew", x.sweep(1, 2), 5);
        due("there is no way up", x.sweep(0, 2), NONE);
    }

    private static void sweepByTwo() {
        fresh(ALP);
        due("from the top", x.sweep(2, 2), 30);
        due("from home", x.sweep(0, 2), 45);
        fresh("run a p0 p1 grade 0 takes 10 snow 0;run b p0 p2 grade 0 takes 10 snow 0;");
        due("one can't", x.sweep(0, 1), NONE);
        due("two can", x.sweep(0, 2), 10);
        // b must wait for a: who waits below begins as a ends
        fresh("run a p0 p1 grade 0 takes 30 snow 0;run b p1 p2 grade 0 takes 5 snow 0;"
            + "run c p1 p3 grade 0 takes 7 snow 0;lift l p0 p1 takes 4 seats 1 from 0 to 1;");
        due("waits for what is above", x.sweep(0, 2), 37);
        due("one can't do both", x.sweep(0, 1), NONE);
        due("a is above", x.sweep(1, 2), NONE);
        // between by a RUN that is not yet SWEPT
        fresh("run a p0 p1 grade 0 takes 2 snow 0;run b p1 p2 grade 0 takes 3 snow 0;"
            + "run c p3 p1 grade 0 takes 4 snow 0;lift l p2 p3 takes 1 seats 1 from 0 to 1;");
        due("down and over", x.sweep(0, 1), 2 + 3 + 1 + 4 + 3);
    }

    // ---- 30

    private static void about() {
        fresh(ALP);
        x.weather(0, 0, 0);
        x.skier(0);
        x.skier(1);
        x.pass(0, 1, 5);
        x.pass(1, 1, 5);
        x.pass(1, 1, 5);
        x.unpass(0);
        x.untell(0);
        for (int n = 0; n < 4; n++) {
            x.arrive(n, 1);
        }
        x.later(9);
        x.feed(0, 0, 0, 0, 0);
        int[] want = {2, 3, 6, 1, 2, 3, 4, 9, 20, 0};
        for (int what = 0; what < want.length; what++) {
            due("about(" + what + ")", x.about(what), want[what]);
        }
        due("about(10)", x.about(10), NONE);
        due("about(-1)", x.about(-1), NONE);
        due("about MAX", x.about(MAX), NONE);
    }
}
