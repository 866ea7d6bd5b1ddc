/** The boundaries of the TAPE, of TOKENS and of a MOUNTAIN: a test for each sentence that names one. */
public final class MountainBoundsTest {
    private static final int NONE = SkiMountain.NONE;
    private static final String LIFT = "lift a p0 p1 takes 5 seats 6 from 7 to 8;";
    private static final String RUN = "run b p0 p1 grade 0 takes 5 snow 6;";
    private static final String[] WORDS = {"lift", "run", "home", "takes", "seats", "from", "to", "gate", "grade",
        "snow", "shut", "if", "or", "and", "not", "hour", "wind", "fresh"};

    private MountainBoundsTest() {
    }

    public static void main(String[] args) {
        emptyAtFirst();
        tapeIsFull();
        tapeIsNearlyFull();
        highestByteFirst();
        endKeepsTheFirst();
        endRefuses();
        longestMountain();
        lettersOfAWord();
        letters();
        digitsOfANumber();
        digitsOfP();
        nothingBehindP();
        signs();
        blanks();
        blanksPartThemOrNot();
        asLongAsCanBe();
        noLetterBehindN();
        wordsAreNoNames();
        nextToWordsAreNames();
        whatCanStand();
        linesOneBehindTheOther();
        sixLifts();
        sevenRuns();
        homeOnce();
        homeIfNotTold();
        numbersThatCanBe();
        dutyThatCanBe();
        namesAreDifferent();
        placesOfALineAreDifferent();
        firstFaultByItsPlace();
        leastFaultAtOnePlace();
        placeOfTheEnd();
        waysByNumbers();
        howManyLines();
        whatThereIsStaysAtAFault();
        noneBehindAnotherMountain();
        faultAsksForTwo();
        faultOfTheLatest();
        Check.close();
    }

    private static void due(String call, long got, long want) {
        Check.due(call, got, want);
    }

    private static void good(String text, int lines) {
        Check.good(false, text, lines);
    }

    private static void bad(String text, int fault, int place) {
        Check.bad(false, text, fault, place);
    }

    // ---- 1 .. 3: a new object, feed, end

    /** "A MOUNTAIN is a text (empty at first)"; "An empty MOUNTAIN, no WEATHER, no SKIERS." */
    private static void emptyAtFirst() {
        SkiMountain x = new SkiMountain();
        for (int what = 0; what <= 9; what++) {
            due("about " + what + " of a new object", x.about(what), 0);
        }
        due("no LIFT", x.open(0, 0, 0), NONE);
        due("no RUN", x.open(10, 0, 0), NONE);
        due("no SKIER", x.places(0, 0, 0), NONE);
        due("no TELLING", x.untell(0) ? 1 : 0, 0);
        due("no PASS", x.unpass(0) ? 1 : 0, 0);
        due("no day", x.wait(0, 0, 0), NONE);
        due("the empty TAPE is a MOUNTAIN", x.mountain(), 0);
        due("and a LAW", x.law(), 0);
    }

    /** "NONE, and nothing comes, if there would be more than 1,400." */
    private static void tapeIsFull() {
        SkiMountain x = new SkiMountain();
        for (int n = 1; n <= 70; n++) {
            due("feed " + n, x.feed(0x20202020, 0x20202020, 0x20202020, 0x20202020, 0x20202020), 20 * n);
        }
        due("1,420", x.feed(0x24242424, 0, 0, 0, 0), NONE);
        due("1,400 stay", x.about(8), 1400);
        due("they are blanks", x.mountain(), 0);
        due("empty then", x.feed(0, 0, 0, 0, 0), 20);
    }

    /** The same, where some of the twenty would have room. */
    private static void tapeIsNearlyFull() {
        for (int bytes = 1380; bytes <= 1400; bytes++) {
            SkiMountain x = new SkiMountain();
            Check.tape(x, new byte[bytes]);
            int want = bytes == 1380 ? 1400 : NONE;
            due("feed behind " + bytes, x.feed(0, 0, 0, 0, 0), want);
            due("bytes behind " + bytes, x.about(8), Math.max(want, bytes));
        }
    }

    /** "Twenty bytes come behind those on the TAPE, the highest of each first." */
    private static void highestByteFirst() {
        SkiMountain x = new SkiMountain();
        String text = "\n\n\nhome\np7;run z p2 p1\ngrade 3 takes 60 ";
        Check.tape(x, Check.bytes(text));
        due("bytes", x.about(8), text.length());
        due("twenty more", x.feed('s' << 24 | 'n' << 16 | 'o' << 8 | 'w', ' ' << 24 | '3' << 16 | '0' << 8 | '0',
            ';' << 24 | 0x202020, 0x20202020, 0x20202024), text.length() + 20);
        due("the last byte is no TOKEN", x.mountain(), NONE);
        due("it is the lowest of the fifth", x.fault(1), text.length() + 19);
        x.feed(0x80000000, 0, 0, 0, 0);
        due("a byte above 127", x.mountain(), NONE);
        due("is no TOKEN", x.fault(0) * 100 + x.fault(1), 100);
    }

    /** "The TAPE has its first n bytes: n". */
    private static void endKeepsTheFirst() {
        SkiMountain x = new SkiMountain();
        Check.tape(x, Check.bytes("home p4;home p5;"));
        due("all", x.end(16), 16);
        due("one less", x.end(15), 15);
        due("not so many any more", x.end(16), NONE);
        due("eight", x.end(8), 8);
        due("the first eight", x.mountain(), 1);
        due("home", x.about(9), 4);
        Check.tape(x, Check.bytes("home p5;"));
        due("none", x.end(0), 0);
        due("bytes", x.about(8), 0);
        due("none again", x.end(0), 0);
        due("feed begins anew", x.feed(0, 0, 0, 0, 0), 20);
    }

    /** "NONE, doing nothing, if it has not so many, or n is below 0." */
    private static void endRefuses() {
        SkiMountain x = new SkiMountain();
        due("1 of none", x.end(1), NONE);
        x.feed(0, 0, 0, 0, 0);
        for (int n : new int[] {21, 22, 1400, 1401, Integer.MAX_VALUE, -1, -20, Integer.MIN_VALUE}) {
            due("end " + n, x.end(n), NONE);
            due("bytes stay at " + n, x.about(8), 20);
        }
        due("20 of 20", x.end(20), 20);
        due("19 of 20", x.end(19), 19);
        due("20 of 19", x.end(20), NONE);
    }

    // ---- TOKENS

    /** "A MOUNTAIN is a text of at most 1,400 bytes". */
    private static void longestMountain() {
        good(Check.times(" ", 1392) + "home p3;", 1);
        bad(Check.times(" ", 1393) + "home p3", 2, 1400);
        bad(Check.times(" ", 1391) + "home p3;;", 2, 1399);
    }

    /** "words (a .. z, 8 at most)"; a longer word is "no TOKEN, at its first byte". */
    private static void lettersOfAWord() {
        for (int many = 1; many <= 8; many++) {
            String name = "abcdefgh".substring(0, many);
            good("lift " + name + LIFT.substring(6), 1);
            good("run " + name + RUN.substring(5), 1);
        }
        bad("lift abcdefghi p0 p1", 1, 5);
        bad("lift abcdefghijklmnopqrstuvwxyz p0 p1", 1, 5);
        bad("lift " + Check.times("z", 1300), 1, 5);
        bad("abcdefghi", 1, 0);
        bad("abcdefgh", 2, 0);
    }

    /** "a .. z": the first and the last letter, and what stands beside them. */
    private static void letters() {
        good("lift az" + LIFT.substring(6), 1);
        good("lift za" + LIFT.substring(6), 1);
        for (char c : new char[] {'A', 'Z', '`', '{', '@', '[', '_', (char) 223, (char) 225, (char) 255}) {
            bad(c + "", 1, 0);
            bad("lift " + c, 1, 5);
            bad("lift x" + c, 1, 6);
        }
    }

    /** "N (1 to 4 digits)"; more digits are "no TOKEN, at its first byte". */
    private static void digitsOfANumber() {
        good("lift a p0 p1 takes 5 seats 6 from 7 to 8;", 1);
        good("lift a p0 p1 takes 05 seats 06 from 07 to 08;", 1);
        good("lift a p0 p1 takes 005 seats 006 from 000 to 008;", 1);
        good("lift a p0 p1 takes 0005 seats 0099 from 0000 to 0480;", 1);
        bad("lift a p0 p1 takes 00005 seats 6", 1, 19);
        bad("lift a p0 p1 takes 5 seats 00006", 1, 27);
        bad("lift a p0 p1 takes 9999", 4, 19);
        bad("lift a p0 p1 takes 10000", 1, 19);
        bad("lift a p0 p1 takes " + Check.times("0", 1300), 1, 19);
        bad("lift a p0 p1 takes /", 1, 19);
        bad("lift a p0 p1 takes :", 1, 19);
    }

    /** "P (p and one digit, 0 .. 9". */
    private static void digitsOfP() {
        for (int p = 0; p <= 9; p++) {
            SkiMountain x = Check.made("home p" + p + ";");
            due("home " + p, x.about(9), p);
        }
        bad("home p;", 2, 5);
        bad("home p 0;", 2, 5);
        bad("home p/;", 2, 5);
        bad("home p:;", 2, 5);
        bad("home q0;", 2, 5);
        bad("home pp0;", 2, 5);
        bad("home 0;", 2, 5);
    }

    /** "no letter or digit behind": else it is the word p, and an N. */
    private static void nothingBehindP() {
        bad("home p00;", 2, 5);
        bad("home p09;", 2, 5);
        bad("home p0a;", 2, 5);
        bad("home p0z;", 2, 5);
        good("home p0;", 1);
        good("home p0 ;", 1);
        good("home p0\n;", 1);
        bad("home p0", 2, 7);
        bad("home p0/;", 1, 7);
        bad("home p0:;", 1, 7);
        bad("home p0`;", 1, 7);
        bad("home p0{;", 1, 7);
        bad("home p0A;", 1, 7);
        bad("home p0Z;", 1, 7);
        bad("lift p0", 2, 5);
        bad("lift p00", 2, 6);
        bad("lift p0a", 1, 6);
        good("run p p0 p1 grade 0 takes 1 snow 0;", 1);
    }

    /** "signs ; ( ) < > = + -": these eight are TOKENS (which can't stand there), no other is. */
    private static void signs() {
        for (int c = 0; c < 256; c++) {
            boolean blank = c == 32 || c == 10;
            boolean token = c >= 'a' && c <= 'z' || c >= '0' && c <= '9' || ";()<>=+-".indexOf(c) >= 0;
            if (!blank) {
                bad((char) c + "", token ? 2 : 1, 0);
                bad("home p0;" + (char) c, token ? 2 : 1, 8);
            }
        }
    }

    /** "blanks (32, 10)": no other byte is one. */
    private static void blanks() {
        good(" ", 0);
        good("\n", 0);
        good(" \n \nhome \n p0 \n ; \n ", 1);
        for (int c : new int[] {0, 8, 9, 11, 12, 13, 31, 33, 133, 160}) {
            bad((char) c + "home p0;", 1, 0);
            bad("home" + (char) c + "p0;", 1, 4);
            bad("home p0;" + (char) c, 1, 8);
        }
    }

    /** "blanks part them or not". */
    private static void blanksPartThemOrNot() {
        good("lift a p0 p1 takes5 seats6 from7 to8;run b p0 p1 grade0 takes5 snow6;home p0;", 3);
        good("lift a p0 p1 takes5 seats6 from7 to8 gate;home p0;", 2);
        good("\nlift\n\na  p0 \n p1\ntakes\n5\nseats\n6\nfrom\n7\nto\n8\ngate\n;\n", 1);
        bad("li ft a", 2, 0);
        bad("home p0;ho me", 2, 8);
        bad("lift a p0 p1 takes 5 seats 6 from 7 to 8 ga te;", 2, 41);
        bad("lift a p0 p1 takes 1 0 seats", 2, 21);
        bad("home p 1;", 2, 5);
    }

    /** "each is as long as can be". */
    private static void asLongAsCanBe() {
        bad("homep0;", 2, 0);
        bad("lifta p0 p1", 2, 0);
        bad("lift ap0 p1", 2, 7);
        bad("lift a p0p1", 2, 7);
        bad("lift a p0 p1takes", 2, 10);
        bad("lift a p0 p1 takes 5seats 6", 1, 19);
        bad("lift a p0 p1 takes 5 seats 6 from 7 to 8gate;", 1, 39);
        bad("run b p0 p1 grade 01234", 1, 18);
        bad("homehome p0;", 2, 0);
        bad("homehomeh p0;", 1, 0);
    }

    /** "no letter directly behind an N": "no TOKEN, at its first byte". */
    private static void noLetterBehindN() {
        bad("lift a p0 p1 takes 5a", 1, 19);
        bad("lift a p0 p1 takes 5z", 1, 19);
        bad("lift a p0 p1 takes 1234x", 1, 19);
        bad("lift a p0 p1 takes 5p1", 1, 19);
        bad("lift a p0 p1 takes 5 x", 2, 21);
        bad("lift a p0 p1 takes 5\nx", 2, 21);
        bad("lift a p0 p1 takes 5`", 1, 20);
        bad("lift a p0 p1 takes 5{", 1, 20);
        // letters are a .. z: what follows is no TOKEN of its own
        bad("lift a p0 p1 takes 5A", 1, 20);
        bad("lift a p0 p1 takes 5Z", 1, 20);
        bad("lift a p0 p1 takes 5", 2, 20);
        bad("lift a p0 p1 takes 5 seats 6 from 7 to 8a;", 1, 39);
        bad("5x", 1, 0);
        bad("5", 2, 0);
    }

    /** "Words that stand for themselves here and in LAWS are no NAMES." */
    private static void wordsAreNoNames() {
        for (String word : WORDS) {
            bad("lift " + word + LIFT.substring(6), 2, 5);
            bad("run " + word + RUN.substring(5), 2, 4);
        }
    }

    /** What is next to such a word is a NAME. */
    private static void nextToWordsAreNames() {
        for (String word : WORDS) {
            good("lift " + word + "x" + LIFT.substring(6), 1);
            good("lift x" + word + LIFT.substring(6), 1);
            good("run " + word.substring(1) + RUN.substring(5), 1);
            good("run " + word.substring(0, word.length() - 1) + RUN.substring(5), 1);
        }
        good("lift p" + LIFT.substring(6) + "lift seat" + LIFT.substring(6), 2);
        good("lift a" + LIFT.substring(6) + "lift b" + LIFT.substring(6), 2);
    }

    // ---- the grammar

    /** FAULT "2 one that can't stand there": behind each TOKEN of each line something else. */
    private static void whatCanStand() {
        String[] lines = {"lift a p0 p1 takes 5 seats 6 from 7 to 8 gate ;", "run b p0 p1 grade 0 takes 5 snow 6 ;",
            "home p0 ;", "lift a p0 p1 takes 5 seats 6 from 7 to 8 ;"};
        String[] others = {"lift", "run", "home", "takes", "seats", "from", "to", "gate", "grade", "snow", "shut",
            "if", "or", "and", "not", "hour", "wind", "fresh", "name", "p5", "7", ";", "(", ")", "<", ">", "=", "+", "-"};
        for (String line : lines) {
            String[] tokens = line.split(" ");
            String ahead = "";
            for (int n = 0; n < tokens.length; n++) {
                for (String other : others) {
                    if (!fits(tokens[n], other) && !(tokens[n].equals(";") && other.equals("gate"))
                        && !(tokens[n].equals("gate") && other.equals(";")) && n > 0) {
                        bad(ahead + other, 2, ahead.length());
                    }
                }
                bad(ahead + "$", 1, ahead.length());
                ahead += tokens[n] + " ";
                if (n + 1 < tokens.length) {
                    bad(ahead, 2, ahead.length());
                }
            }
            good(ahead, 1);
        }
        for (String other : others) {
            bad(other, 2, other.equals("lift") || other.equals("run") || other.equals("home") ? other.length() : 0);
        }
        bad("lift a p0 p1 takes 5 seats 6 from 7 to 8 gate gate;", 2, 46);
    }

    /** Whether another TOKEN can stand where one does. */
    private static boolean fits(String token, String other) {
        boolean name = token.equals("a") || token.equals("b");
        boolean place = token.matches("p\\d");
        boolean number = token.matches("\\d");
        return token.equals(other) || name && other.equals("name") || place && other.equals("p5")
            || number && other.equals("7");
    }

    /** "mountain = {line}": none, one, and many in any order, each with its sign. */
    private static void linesOneBehindTheOther() {
        good("", 0);
        good(LIFT, 1);
        good(RUN + LIFT, 2);
        good("home p1;" + RUN + LIFT, 3);
        bad(RUN + LIFT + ";", 2, (RUN + LIFT).length());
        bad(";", 2, 0);
        bad(RUN.replace(";", " ") + LIFT, 2, RUN.length());
    }

    private static String lifts(int many) {
        StringBuilder b = new StringBuilder();
        for (int n = 0; n < many; n++) {
            b.append("lift l").append((char) ('a' + n)).append(" p").append(n).append(" p9 takes 5 seats 6 from 7 to 8;");
        }
        return b.toString();
    }

    private static String runs(int many) {
        StringBuilder b = new StringBuilder();
        for (int n = 0; n < many; n++) {
            b.append("run r").append((char) ('a' + n)).append(" p").append(n).append(" p9 grade 0 takes 5 snow 6;");
        }
        return b.toString();
    }

    /** "At most 6 LIFTS"; FAULT 2: "a 7th LIFT: at the line's first word". */
    private static void sixLifts() {
        SkiMountain x = Check.made(lifts(6));
        due("6", x.about(0), 6);
        due("LIFT 5", x.open(5, 7, 0), 1);
        due("LIFT 6", x.open(6, 7, 0), NONE);
        bad(lifts(7), 2, lifts(6).length());
        bad(lifts(6) + "lift", 2, lifts(6).length());
        bad(lifts(6) + " lift a p0 p0", 2, lifts(6).length() + 1);
        bad(runs(7) + lifts(7), 2, (runs(7) + lifts(6)).length());
        good(lifts(6) + runs(1) + "home p0;", 8);
    }

    /** "7 RUNS"; FAULT 2: "an 8th RUN: at the line's first word". */
    private static void sevenRuns() {
        SkiMountain x = Check.made(runs(7));
        due("7", x.about(1), 7);
        due("RUN 6", x.open(16, 0, 0), 1);
        due("RUN 7", x.open(17, 0, 0), NONE);
        bad(runs(8), 2, runs(7).length());
        bad(runs(7) + "run ra p0 p0", 2, runs(7).length());
        bad(lifts(6) + runs(8), 2, (lifts(6) + runs(7)).length());
        good(runs(7) + lifts(6) + "home p0;", 14);
    }

    /** "home once"; FAULT 2: "home a second time: at the line's first word". */
    private static void homeOnce() {
        good("home p0;", 1);
        bad("home p0;home p0;", 2, 8);
        bad("home p1; home", 2, 9);
        bad("home p0;" + RUN + "home p0;", 2, 8 + RUN.length());
    }

    /** "(p0 if not told)". */
    private static void homeIfNotTold() {
        SkiMountain x = Check.made("run a p9 p5 grade 0 takes 1 snow 0;home p5;");
        due("told", x.about(9), 5);
        due("another", Check.mountain(x, "run a p9 p5 grade 0 takes 1 snow 0;"), 1);
        due("not told", x.about(9), 0);
        due("one is home there", x.last(0, 0, 0), 480);
        due("none told, none at all", Check.mountain(x, ""), 0);
        due("p0", x.about(9), 0);
    }

    private static void number(String ahead, String behind, int least, int most) {
        for (int n : new int[] {least, least + 1, most - 1, most}) {
            good(ahead + n + behind, 1);
        }
        for (int n : new int[] {least - 1, most + 1, most + 2, 9999}) {
            if (n >= 0) {
                bad(ahead + n + behind, 4, ahead.length());
            }
        }
        bad(ahead + "-1" + behind, 2, ahead.length());
    }

    /** FAULT 4: "takes 1 .. 30 minutes, seats 1 .. 99"; "grade 0 .. 3, takes 1 .. 60, snow 0 .. 300". */
    private static void numbersThatCanBe() {
        number("lift a p0 p1 takes ", " seats 6 from 7 to 8;", 1, 30);
        number("lift a p0 p1 takes 5 seats ", " from 7 to 8;", 1, 99);
        number("run b p0 p1 grade ", " takes 5 snow 6;", 0, 3);
        number("run b p0 p1 grade 0 takes ", " snow 6;", 1, 60);
        number("run b p0 p1 grade 0 takes 5 snow ", ";", 0, 300);
    }

    /** "on duty in MINUTES from .. to (0 .. 480; that not; the second above the first)". */
    private static void dutyThatCanBe() {
        good("lift a p0 p1 takes 5 seats 6 from 0 to 480;", 1);
        good("lift a p0 p1 takes 5 seats 6 from 479 to 480;", 1);
        number("lift a p0 p1 takes 5 seats 6 from 0 to ", ";", 1, 480);
        String ahead = "lift a p0 p1 takes 5 seats 6 from ";
        bad(ahead + "480 to 480;", 4, ahead.length() + 7);
        bad(ahead + "480 to 481;", 4, ahead.length() + 7);
        bad(ahead + "481 to 482;", 4, ahead.length());
        bad(ahead + "100 to 100;", 4, ahead.length() + 7);
        bad(ahead + "100 to 99;", 4, ahead.length() + 7);
        bad(ahead + "100 to 0;", 4, ahead.length() + 7);
        good(ahead + "100 to 101;", 1);
        SkiMountain x = Check.made(ahead + "100 to 101;" + "lift b p0 p1 takes 5 seats 6 from 0 to 480;");
        due("ahead of from", x.open(0, 99, 0), 0);
        due("from", x.open(0, 100, 0), 1);
        due("to", x.open(0, 101, 0), 0);
        due("0", x.open(1, 0, 0), 1);
        due("479", x.open(1, 479, 0), 1);
        due("480", x.open(1, 480, 0), 0);
    }

    /** "All NAMES are different"; FAULT "3 a NAME told already": at the NAME. */
    private static void namesAreDifferent() {
        bad(LIFT + "lift a", 3, LIFT.length() + 5);
        bad(LIFT + "run a", 3, LIFT.length() + 4);
        bad(RUN + "run b", 3, RUN.length() + 4);
        bad(RUN + "lift b", 3, RUN.length() + 5);
        bad(RUN + LIFT + "home p0;run b", 3, (RUN + LIFT).length() + 12);
        bad(lifts(5) + "lift la", 3, lifts(5).length() + 5);
        bad(lifts(5) + "lift le", 3, lifts(5).length() + 5);
        bad(runs(6) + "run ra", 3, runs(6).length() + 4);
        bad(runs(6) + "run rf", 3, runs(6).length() + 4);
        good("lift abcdefgh p0 p1 takes 5 seats 6 from 7 to 8;run abcdefgi p0 p1 grade 0 takes 5 snow 6;", 2);
        good("lift abcdefg p0 p1 takes 5 seats 6 from 7 to 8;run abcdefgh p0 p1 grade 0 takes 5 snow 6;", 2);
        good("lift a p0 p1 takes 5 seats 6 from 7 to 8;run aa p0 p1 grade 0 takes 5 snow 6;", 2);
        SkiMountain x = Check.made(LIFT);
        due("told already in what there was", Check.mountain(x, LIFT), 1);
        due("and behind a FAULT", Check.mountain(x, LIFT + "$"), NONE);
        due("once more", Check.mountain(x, LIFT), 1);
    }

    /** "the two P of a line, too"; FAULT "5 a second P like the first": at the second. */
    private static void placesOfALineAreDifferent() {
        for (int p = 0; p <= 9; p++) {
            bad("lift a p" + p + " p" + p, 5, 10);
            bad("run b p" + p + " p" + p + " grade", 5, 9);
            good("run b p" + p + " p" + (9 - p) + " grade 0 takes 5 snow 6;", 1);
        }
        good("run b p0 p1 grade 0 takes 5 snow 6;run c p0 p1 grade 0 takes 5 snow 6;", 2);
        good("run b p0 p1 grade 0 takes 5 snow 6;run c p1 p0 grade 0 takes 5 snow 6;", 2);
    }

    // ---- FAULTS

    /** "FAULTS, the first by its place". */
    private static void firstFaultByItsPlace() {
        bad("lift a p0 p0 takes 0 $", 5, 10);
        bad("lift a p0 p1 takes 0 seats 0 $", 4, 19);
        bad("lift a p0 p1 takes 1 $ seats 0", 1, 21);
        bad("lift a p0 p1 takes $ 0", 1, 19);
        bad("run if p0 p0", 2, 4);
        bad(RUN + "run b p0 p0", 3, RUN.length() + 4);
        bad(RUN + "run c p0 p0 run", 5, RUN.length() + 9);
        bad("$ lift lift", 1, 0);
        bad("lift lift $", 2, 5);
    }

    /** "at one place the least": what is no TOKEN can't stand there either. */
    private static void leastFaultAtOnePlace() {
        bad("lift abcdefghi", 1, 5);
        bad("lift a p0 p1 takes 00000", 1, 19);
        bad("lift a p0 p1 takes 31x", 1, 19);
        bad("lift a p0 p1 takes 5 seats 6 from 7 to 12345;", 1, 39);
        bad("home $;", 1, 5);
        bad("home p0 #", 1, 8);
    }

    /** "(bytes from 0; the end: the text's length)". */
    private static void placeOfTheEnd() {
        bad("lift", 2, 4);
        bad("lift ", 2, 5);
        bad("lift\n\n\n", 2, 7);
        bad("home p0", 2, 7);
        bad("home p0;run", 2, 11);
        bad("home p0;run   ", 2, 14);
        bad(RUN.substring(0, RUN.length() - 1), 2, RUN.length() - 1);
    }

    /** "WAYS are LIFTS by their numbers (as told, from 0 on) and RUNS by 10 and theirs." */
    private static void waysByNumbers() {
        SkiMountain x = Check.made("run c p2 p3 grade 0 takes 9 snow 6;lift a p0 p1 takes 5 seats 6 from 7 to 8;"
            + "run d p3 p4 grade 0 takes 8 snow 6;lift b p1 p2 takes 5 seats 6 from 9 to 20;");
        due("LIFT 0", x.open(0, 7, 0) * 10 + x.open(0, 9, 0), 10);
        due("LIFT 1", x.open(1, 9, 0) * 10 + x.open(1, 7, 0), 10);
        due("RUN 0", x.soonest(0, 2, 0, 3, 0), 9);
        due("RUN 1", x.soonest(0, 3, 0, 4, 0), 8);
        due("first", x.way(0, 0, 0, 4, 0, 0), 0);
        due("second", x.way(0, 0, 0, 4, 1, 0), 1);
        due("third", x.way(0, 0, 0, 4, 2, 0), 10);
        due("fourth", x.way(0, 0, 0, 4, 3, 0), 11);
        for (int way : new int[] {-1, 2, 5, 6, 9, 12, 16, 17, 20}) {
            due("no WAY " + way, x.open(way, 7, 0), NONE);
        }
    }

    // ---- 4, 6: mountain, fault

    /** mountain: "how many lines". */
    private static void howManyLines() {
        SkiMountain x = new SkiMountain();
        due("14", Check.mountain(x, lifts(6) + runs(7) + "home p9;"), 14);
        due("lines", x.about(2), 14);
        due("13", Check.mountain(x, lifts(6) + runs(7)), 13);
        due("1", Check.mountain(x, "home p9;"), 1);
        due("no LIFTS now", x.about(0), 0);
        due("no RUNS now", x.about(1), 0);
        due("0", x.mountain(), 0);
        due("no lines", x.about(2), 0);
    }

    /** "NONE: a FAULT (that there is stays)." */
    private static void whatThereIsStaysAtAFault() {
        SkiMountain x = Check.made(LIFT + RUN + "home p1;");
        due("a FAULT at the end", Check.mountain(x, "lift z p5 p6 takes 5 seats 6 from 70 to 80;home p7;$"), NONE);
        due("LIFTS", x.about(0), 1);
        due("RUNS", x.about(1), 1);
        due("lines", x.about(2), 3);
        due("home", x.about(9), 1);
        due("the TAPE is empty", x.about(8), 0);
        due("the LIFT", x.open(0, 7, 0) * 10 + x.open(0, 70, 0), 10);
        due("the RUN", x.soonest(0, 0, 0, 1, 0), 5);
    }

    /** "(PASSES, TURNS, MAKERS, and what was run are none then)", nothing else. */
    private static void noneBehindAnotherMountain() {
        String text = "lift a p0 p1 takes 5 seats 6 from 0 to 80 gate;run b p0 p1 grade 0 takes 5 snow 6;";
        SkiMountain x = Check.made(text);
        x.skier(2);
        x.later(7);
        x.weather(4, 5, 6);
        x.arrive(3, 4);
        Check.law(x, "shut run if hour=7;");
        for (int n = 1; n <= 6; n++) {
            due("turn " + n, x.turn(0), n);
        }
        x.make(0, 20);
        x.pass(0, 0, 0);
        x.day(9);
        due("the same text again", Check.mountain(x, text), 2);
        due("no PASSES", x.about(5), 0);
        due("no PASS to take back", x.unpass(0) ? 1 : 0, 0);
        due("not known as he got on", x.can(0, 1, 5, 9) * 10 + x.canOn(0, 0, 0, 9), 10);
        due("nothing was run: wait", x.wait(0, 0, 0), NONE);
        due("nothing was run: snow", x.snow(0, 0), NONE);
        due("nothing was run: took", x.took(0, 0), NONE);
        due("no TURNS: all at home", x.day(9), 4);
        due("nobody queued", x.wait(0, 3, 1), 0);
        due("no MAKERS", x.snow(0, 5), 60);
        due("a first TURN", x.turn(0), 1);
        due("SKIERS stay", x.about(4), 1);
        due("WEATHER stays", x.air(4, 0, 7), 5);
        due("TELLINGS stay", x.about(3), 1);
        due("ARRIVALS stay", x.about(6), 1);
        due("the TIME stays", x.about(7), 7);
        due("the LAW stays", x.open(10, 419, 7) * 10 + x.open(10, 420, 7), 10);
    }

    /** "what 0: its FAULT (0: without; ahead of any, too), 1: its place (NONE). NONE for another what." */
    private static void faultAsksForTwo() {
        SkiMountain x = new SkiMountain();
        due("ahead of any", x.fault(0), 0);
        due("its place", x.fault(1), NONE);
        for (int round = 0; round < 2; round++) {
            for (int what : new int[] {-1, 2, 3, Integer.MAX_VALUE, Integer.MIN_VALUE}) {
                due("what " + what, x.fault(what), NONE);
            }
            due("a FAULT", Check.mountain(x, "home p1;$"), NONE);
            due("which", x.fault(0), 1);
            due("where", x.fault(1), 8);
        }
        due("none", Check.mountain(x, "home p1;"), 1);
        due("without", x.fault(0), 0);
        due("its place", x.fault(1), NONE);
    }

    /** "Of the latest of both that was not -2". */
    private static void faultOfTheLatest() {
        SkiMountain x = new SkiMountain();
        due("a MOUNTAIN's", Check.mountain(x, "lift a p0 p0"), NONE);
        due("5 at 10", x.fault(0) * 100 + x.fault(1), 510);
        due("a LAW's", Check.law(x, "shut lift if snow"), NONE);
        due("6 at 13", x.fault(0) * 100 + x.fault(1), 613);
        due("-2", Check.law(x, Check.times("$", 501)), -2);
        due("still 6 at 13", x.fault(0) * 100 + x.fault(1), 613);
        due("a MOUNTAIN of what stayed", x.mountain(), NONE);
        due("1 at 0", x.fault(0) * 100 + x.fault(1), 100);
        due("a LAW without", Check.law(x, ""), 0);
        due("0", x.fault(0), 0);
        due("no place", x.fault(1), NONE);
        due("-2 behind it", Check.law(x, Check.times("$", 501)), -2);
        due("still 0", x.fault(0), 0);
        due("still no place", x.fault(1), NONE);
    }
}
