/** The boundaries of a LAW: a test for each sentence that names one. */
public final class LawBoundsTest {
    private static final int NONE = SkiMountain.NONE;
    private static final String HEAD = "shut run if ";
    private static final String[] TOKENS = {"lift", "run", "home", "takes", "seats", "from", "to", "gate", "grade",
        "snow", "shut", "if", "or", "and", "not", "hour", "wind", "fresh", "name", "p", "p5", "0", "9999",
        ";", "(", ")", "<", ">", "=", "+", "-"};
    private static final String UNITS = " 0 9999 hour wind fresh takes snow grade ";

    private LawBoundsTest() {
    }

    public static void main(String[] args) {
        noneAtFirst();
        longestLaw();
        tooLong();
        emptyLaw();
        whatCanStand();
        eachOnce();
        bothKinds();
        noTokens();
        placeOfTheEnd();
        snowAndGradeOfRunsAlone();
        leastFaultAtOnePlace();
        firstFaultByItsPlace();
        fortyUnits();
        unitsOfBothLines();
        withinSixOthers();
        besideIsNotWithin();
        precedence();
        sums();
        comparisons();
        units();
        hours();
        snowUpToTheHour();
        shutByHours();
        lawOfTheOther();
        howManyLines();
        whatThereIsStaysAtAFault();
        whatWasRunIsNone();
        tapeIsEmptyThen();
        Check.close();
    }

    private static void due(String call, long got, long want) {
        Check.due(call, got, want);
    }

    private static void good(String text, int lines) {
        Check.good(true, text, lines);
    }

    private static void bad(String text, int fault, int place) {
        Check.bad(true, text, fault, place);
    }

    private static SkiMountain two() {
        return Check.made("lift a p0 p1 takes 30 seats 1 from 0 to 480;run b p1 p0 grade 3 takes 60 snow 300;");
    }

    // ---- the text

    /** "A LAW is a text (none at first)": nothing is SHUT. */
    private static void noneAtFirst() {
        SkiMountain x = two();
        for (int minute = 0; minute < 480; minute += 60) {
            due("LIFT at " + minute, x.open(0, minute, 0), 1);
            due("RUN at " + minute, x.open(10, minute, 0), 1);
        }
    }

    /** "a text of at most 500 bytes". */
    private static void longestLaw() {
        String law = HEAD + "1=1;";
        good(Check.times(" ", 500 - law.length()) + law, 1);
        bad(Check.times(" ", 501 - law.length()) + law.substring(0, law.length() - 1), 2, 500);
        bad(Check.times(" ", 499 - law.length()) + law + "$", 1, 499);
    }

    /** law: "-2, and the TAPE stays: more than 500 bytes." */
    private static void tooLong() {
        SkiMountain x = two();
        due("a LAW", Check.law(x, HEAD + "1=1;"), 1);
        x.day(0);
        due("501", Check.law(x, HEAD + "1=2;" + Check.times(" ", 485)), -2);
        due("the TAPE stays", x.about(8), 501);
        due("the LAW stays", x.open(10, 0, 0), 0);
        due("what was run stays", x.wait(0, 0, 0), 0);
        due("no FAULT", x.fault(0), 0);
        due("again", x.law(), -2);
        due("one byte less", x.end(500), 500);
        due("can be", x.law(), 1);
        due("another LAW", x.open(10, 0, 0), 1);
        due("1,400", Check.law(x, Check.times(" ", 1400)), -2);
        due("they stay", x.about(8), 1400);
    }

    /** "law = {..}": none at all. */
    private static void emptyLaw() {
        good("", 0);
        good(Check.times("\n ", 250), 0);
        SkiMountain x = two();
        due("a LAW", Check.law(x, HEAD + "1=1;"), 1);
        due("SHUT", x.open(10, 0, 0), 0);
        due("none", x.law(), 0);
        due("OPEN", x.open(10, 0, 0), 1);
    }

    // ---- the grammar

    /** FAULT "2 one that can't stand there": behind each TOKEN every other. */
    private static void whatCanStand() {
        // ahead of each TOKEN what may stand there: see may()
        everyOther("S shut W run I if O not O ( O hour L + U 1 L < U wind P - U fresh P or O takes L > U 3 P ) "
            + "C and O snow L = U grade Q ; S shut V lift I if O 1 L < U 2 Q ;", 2);
        everyOther("S shut W run I if O ( O ( O 1 L = U 2 P ) D and O not O not O 3 L < U 4 P + U 5 P ) C or O 6 L > U 7 "
            + "Q and O 8 L - U 9 L = U wind Q - U 1 Q ;", 1);
    }

    private static void everyOther(String row, int lines) {
        String[] parts = row.split(" ");
        String ahead = "";
        boolean lift = false;
        for (int n = 0; n < parts.length; n += 2) {
            for (String token : TOKENS) {
                boolean unit = parts[n].equals("O") || parts[n].equals("U");
                if (lift && unit && (token.equals("snow") || token.equals("grade"))) {
                    bad(ahead + token, 6, ahead.length());
                } else if (!may(parts[n], token)) {
                    bad(ahead + token, 2, ahead.length());
                } else if (!token.equals(";")) {
                    bad(ahead + token, 2, ahead.length() + token.length());
                }
            }
            bad(ahead + "p$", 2, ahead.length());
            bad(ahead + "$", 1, ahead.length());
            lift |= parts[n + 1].equals("lift");
            ahead += parts[n + 1] + " ";
            if (n + 2 < parts.length && !parts[n + 1].equals(";")) {
                bad(ahead, 2, ahead.length());
            }
        }
        good(ahead, lines);
    }

    /** Whether a TOKEN can stand in a state: O a one, U a unit, L, P, Q behind a unit, C, D behind a ). */
    private static boolean may(String state, String token) {
        boolean unit = UNITS.contains(" " + token + " ");
        switch (state) {
            case "S": return token.equals("shut");
            case "W": return token.equals("lift") || token.equals("run");
            case "V": return token.equals("lift");
            case "I": return token.equals("if");
            case "O": return unit || token.equals("not") || token.equals("(");
            case "U": return unit;
            case "L": return "+-<>=".contains(token);
            case "P": return "+-)".contains(token) || token.equals("and") || token.equals("or");
            case "Q": return "+-;".contains(token) || token.equals("and") || token.equals("or");
            case "C": return token.equals(";") || token.equals("and") || token.equals("or");
            case "D": return token.equals(")") || token.equals("and") || token.equals("or");
            default: return false;
        }
    }

    /** "law = {shut (lift | run) if e ;}, each once": "a second shut lift, or run: at the lift or run". */
    private static void eachOnce() {
        String run = HEAD + "1=1;";
        String lift = "shut lift if 1=1;";
        good(run, 1);
        good(lift, 1);
        good(run + lift, 2);
        good(lift + run, 2);
        bad(run + run, 2, run.length() + 5);
        bad(lift + lift, 2, lift.length() + 5);
        bad(run + lift + run, 2, (run + lift).length() + 5);
        bad(run + lift + lift, 2, (run + lift).length() + 5);
        bad(run + lift + "shut", 2, (run + lift).length() + 4);
        bad(lift + "shut\n\nlift if snow", 2, lift.length() + 6);
        bad(run + lift + ";", 2, (run + lift).length());
    }

    /** "shut (lift | run)": one of both, no other and no more. */
    private static void bothKinds() {
        bad("shut home if 1=1;", 2, 5);
        bad("shut if 1=1;", 2, 5);
        bad("shut lift run if 1=1;", 2, 10);
        bad("shut run lift if 1=1;", 2, 9);
        bad("shut lifts if 1=1;", 2, 5);
        bad("shut a if 1=1;", 2, 5);
        bad("run if 1=1;", 2, 0);
    }

    /** FAULT "1 no TOKEN" in a LAW. */
    private static void noTokens() {
        bad(HEAD + "12345=1;", 1, 12);
        good(HEAD + "1234=1;", 1);
        good(HEAD + "0000=0;", 1);
        bad(HEAD + "1=1or 1=1;", 1, 14);
        good(HEAD + "1=1 or1=1;", 1);
        bad(HEAD + "1=1 or 2and", 1, 19);
        bad(HEAD + "abcdefghi=1;", 1, 12);
        bad(HEAD + "abcdefgh=1;", 2, 12);
        bad(HEAD + "1=1\t;", 1, 15);
        bad(HEAD + "1!1;", 1, 13);
        bad(HEAD + "1*1=1;", 1, 13);
        bad(HEAD + "1<=1;", 2, 14);
        bad(HEAD + "1==1;", 2, 14);
        bad(HEAD + "-1=1;", 2, 12);
        bad("SHUT", 1, 0);
    }

    /** "the end: the text's length". */
    private static void placeOfTheEnd() {
        bad("shut", 2, 4);
        bad("shut  \n", 2, 7);
        bad(HEAD + "1=1", 2, 15);
        bad(HEAD + "1=1 ", 2, 16);
        bad(HEAD, 2, 12);
        bad(HEAD + "(1=1;", 2, 16);
        bad(HEAD + "(1=1", 2, 16);
    }

    /** "snow and grade are asked of runs alone"; FAULT "6 snow or grade asked of lifts". */
    private static void snowAndGradeOfRunsAlone() {
        good("shut run if snow=grade;", 1);
        good("shut lift if takes=hour and wind=fresh;", 1);
        bad("shut lift if snow=1;", 6, 13);
        bad("shut lift if grade=1;", 6, 13);
        bad("shut lift if 1=snow;", 6, 15);
        bad("shut lift if 1+2-grade=1;", 6, 17);
        bad("shut lift if 1=1 and not ( snow", 6, 27);
        bad("shut run if snow=1;shut lift if 1=grade;", 6, 34);
        bad("shut lift if 1=1;shut run if snow", 2, 33);
        good("shut lift if 1=1;shut run if snow=grade;", 2);
    }

    /** "at one place the least": a 41st unit that is snow asked of lifts can't stand there (2, not 6). */
    private static void leastFaultAtOnePlace() {
        String forty = "shut lift if " + Check.times("1+", 39) + "1=";
        bad(forty + "snow;", 2, forty.length());
        bad(forty + "$", 1, forty.length());
        bad(forty + "12345", 1, forty.length());
        String less = "shut lift if " + Check.times("1+", 38) + "1=";
        bad(less + "snow;", 6, less.length());
        bad("shut lift if snowsnows", 1, 13);
        String deep = HEAD + Check.times("(", 7);
        bad(deep + "(", 2, deep.length());
        bad(deep + "[", 1, deep.length());
    }

    /** "FAULTS, the first by its place". */
    private static void firstFaultByItsPlace() {
        bad("shut lift if 1 1 snow $", 2, 15);
        bad("shut lift if snow $ 1 1", 6, 13);
        bad("shut lift if $ snow", 1, 13);
        bad("shut lift if snow=1;shut lift", 6, 13);
    }

    // ---- how much

    /** "40 units in all"; FAULT 2: "a 41st unit: at its first TOKEN". */
    private static void fortyUnits() {
        good(HEAD + Check.times("1+", 38) + "1=hour;", 1);
        bad(HEAD + Check.times("1+", 39) + "1=hour;", 2, 12 + 80);
        good(HEAD + Check.times("1=1 and ", 19) + "1=1;", 1);
        String forty = HEAD + Check.times("1=1 or  ", 20);
        for (String unit : new String[] {"1", "hour", "wind", "fresh", "snow", "grade", "takes"}) {
            bad(forty + unit + "=1;", 2, forty.length());
        }
        bad(forty + "not (1=1);", 2, forty.length() + 5);
        bad(HEAD + Check.times("1=1 or  ", 19) + "1=1+1;", 2, 12 + 152 + 4);
        SkiMountain x = two();
        due("40 units", Check.law(x, HEAD + Check.times("1+", 38) + "1=39;"), 1);
        due("each of them counts", x.open(10, 0, 0), 0);
        due("a FAULT", Check.law(x, HEAD + Check.times("1+", 38) + "$"), NONE);
        due("they are counted anew", Check.law(x, HEAD + Check.times("1+", 38) + "1=38;"), 1);
        due("each again", x.open(10, 0, 0), 1);
    }

    /** "in all": over both lines. */
    private static void unitsOfBothLines() {
        for (int first = 2; first <= 38; first += 2) {
            String one = HEAD + Check.times("1+", first - 2) + "1=1;shut lift if ";
            good(one + Check.times("1+", 38 - first) + "1=1;", 2);
            bad(one + Check.times("1+", 39 - first) + "1=1;", 2, one.length() + 2 * (40 - first));
        }
    }

    /** "a ( e ), or a one behind not, within 6 others at most"; "what is within 7 others: at its first TOKEN, or the not". */
    private static void withinSixOthers() {
        for (int kinds = 0; kinds < 256; kinds++) {
            String ahead = HEAD;
            String behind = "";
            int nots = 0;
            for (int n = 0; n < 7; n++) {
                boolean not = (kinds >> n & 1) != 0;
                nots += not ? 1 : 0;
                ahead += not ? "not " : "(";
                behind += not ? "" : ")";
            }
            if (kinds < 128) {
                SkiMountain x = two();
                due(ahead, Check.law(x, ahead + "1=1" + behind + ";"), 1);
                due("turned round " + nots + " times", x.open(10, 0, 0), nots % 2);
            }
            bad(ahead + ((kinds & 128) != 0 ? "not 1=1" : "(1=1)") + behind + ";", 2, ahead.length());
        }
    }

    /** What stands beside is not within. */
    private static void besideIsNotWithin() {
        String seven = Check.times("(", 7) + "1=1" + Check.times(")", 7);
        good(HEAD + seven + " and " + seven + " or " + seven + ";shut lift if " + seven + ";", 2);
        String six = "not ((" + Check.times("not ", 3) + "(1=1) and not 1=1) and (1=1)) and (1=1)";
        good(HEAD + six + ";", 1);
        String deep = HEAD + "(((((((1=1) and (1=1)))))) and ((((((1=1 and ";
        bad(deep + "(1=1", 2, deep.length());
        bad(deep + "not 1=1", 2, deep.length());
        bad(HEAD + seven + " and (" + seven, 2, 12 + seven.length() + 5 + 1 + 6);
    }

    // ---- what holds

    private static void holds(String e, boolean want) {
        SkiMountain x = two();
        due("law of " + e, Check.law(x, HEAD + e + ";"), 1);
        Check.due(e, x.open(10, 0, 0) == 0, want);
    }

    /** "e = both {or both}.  both = one {and one}.  one = not one | ( e ) | ..". */
    private static void precedence() {
        for (int n = 0; n < 8; n++) {
            boolean a = (n & 1) != 0;
            boolean b = (n & 2) != 0;
            boolean c = (n & 4) != 0;
            String x = a ? "1=1" : "1=2";
            String y = b ? "2<3" : "3<2";
            String z = c ? "5>4" : "4>5";
            holds(x + " or " + y + " and " + z, a || b && c);
            holds(x + " and " + y + " or " + z, a && b || c);
            holds("(" + x + " or " + y + ") and " + z, (a || b) && c);
            holds(x + " and (" + y + " or " + z + ")", a && (b || c));
            holds("not " + x + " and " + y, !a && b);
            holds("not " + x + " or " + y, !a || b);
            holds("not (" + x + " and " + y + ") or " + z, !(a && b) || c);
            holds("not not " + x + " and not " + y, a && !b);
            holds(x + " or " + y + " or " + z, a || b || c);
            holds(x + " and " + y + " and " + z, a && b && c);
            holds(x + " and not (" + y + " or not " + z + ")", a && !(b || !c));
        }
    }

    /** "sum = unit {(+ | -) unit}": from the left on; "Ints". */
    private static void sums() {
        holds("9-3-2=4", true);
        holds("9-3+2=8", true);
        holds("4=9-3-2", true);
        holds("0-1<0", true);
        holds("0-9999<0-9998", true);
        holds("0-9999-9999>0-9999-9998", false);
        holds(Check.times("9999+", 38) + "9999>9999", true);
        holds("0<" + Check.times("9999+", 38) + "9999", true);
        holds("0=0-0", true);
        holds("0>0" + Check.times("-9999", 38), true);
        holds("1+2<3+1", true);
    }

    /** "sum (< | > | =) sum": on both sides of the same number. */
    private static void comparisons() {
        holds("4<5", true);
        holds("5<5", false);
        holds("6<5", false);
        holds("4>5", false);
        holds("5>5", false);
        holds("6>5", true);
        holds("4=5", false);
        holds("5=5", true);
        holds("6=5", false);
        holds("0=0000", true);
        holds("9999>9998", true);
        holds("9998>9999", false);
    }

    private static void worth(String mountain, String unit, int want) {
        SkiMountain x = Check.made(mountain);
        int way = mountain.startsWith("run") ? 10 : 0;
        String head = way == 10 ? HEAD : "shut lift if ";
        due("law of " + unit, Check.law(x, head + unit + "=" + want + ";"), 1);
        due(unit + " of " + mountain, x.open(way, 0, 0), 0);
        due("law beside " + unit, Check.law(x, head + "not " + unit + "=" + want + ";"), 1);
        due("not " + unit + " of " + mountain, x.open(way, 0, 0), 1);
    }

    /** "unit = N | hour | wind | fresh | snow | grade | takes": the least and the most of each. */
    private static void units() {
        for (int grade = 0; grade <= 3; grade++) {
            worth("run b p1 p0 grade " + grade + " takes 1 snow 300;", "grade", grade);
        }
        worth("run b p1 p0 grade 0 takes 1 snow 0;", "takes", 1);
        worth("run b p1 p0 grade 0 takes 60 snow 0;", "takes", 60);
        worth("lift a p1 p0 takes 1 seats 99 from 0 to 480;", "takes", 1);
        worth("lift a p1 p0 takes 30 seats 99 from 0 to 480;", "takes", 30);
        worth("run b p1 p0 grade 0 takes 1 snow 0;", "snow", 0);
        worth("run b p1 p0 grade 0 takes 1 snow 300;", "snow", 300);
        worth("run b p1 p0 grade 0 takes 1 snow 0;", "wind", 0);
        worth("run b p1 p0 grade 0 takes 1 snow 0;", "fresh", 0);
        worth("run b p1 p0 grade 0 takes 1 snow 0;", "hour", 0);
        worth("run b p1 p0 grade 0 takes 1 snow 0;", "9999-9999", 0);
        SkiMountain x = two();
        x.weather(0, 99, 40);
        due("wind", Check.law(x, HEAD + "wind=99;shut lift if fresh=40;"), 2);
        due("99", x.open(10, 0, 0), 0);
        due("40", x.open(0, 0, 0), 0);
        due("fresh falls in its HOUR alone", x.open(0, 60, 0), 1);
        due("wind goes on", x.open(10, 479, 0), 0);
    }

    /** "The HOUR of a MINUTE is MINUTE / 60 (0 .. 7". */
    private static void hours() {
        for (int hour = 0; hour < 8; hour++) {
            SkiMountain x = two();
            due("law", Check.law(x, HEAD + "hour=" + hour + ";shut lift if not hour=" + hour + ";"), 2);
            for (int minute : new int[] {60 * hour - 1, 60 * hour, 60 * hour + 59, 60 * hour + 60}) {
                boolean in = minute / 60 == hour && minute >= 0;
                if (minute >= 0 && minute < 480) {
                    due("RUN in " + minute, x.open(10, minute, 0), in ? 0 : 1);
                    due("LIFT in " + minute, x.open(0, minute, 0), in ? 1 : 0);
                }
            }
            due("480", x.open(10, 480, 0) + x.open(0, 480, 0), 0);
        }
    }

    /** "snow: what the RUN has told in the text and all fresh of the HOURS from 0 on up to this one". */
    private static void snowUpToTheHour() {
        SkiMountain x = two();
        x.weather(0, 0, 40);
        x.weather(3, 0, 7);
        x.weather(7, 0, 40);
        int[] want = {340, 340, 340, 347, 347, 347, 347, 387};
        for (int hour = 0; hour < 8; hour++) {
            due("law", Check.law(x, HEAD + "snow=" + want[hour] + ";"), 1);
            due("HOUR " + hour, x.open(10, 60 * hour, 0), 0);
            due("its end", x.open(10, 60 * hour + 59, 0), 0);
            due("one more", Check.law(x, HEAD + "snow=" + (want[hour] + 1) + ";"), 1);
            due("not HOUR " + hour, x.open(10, 60 * hour, 0), 1);
        }
        SkiMountain full = two();
        for (int hour = 0; hour < 8; hour++) {
            full.weather(hour, 0, 40);
        }
        due("law", Check.law(full, HEAD + "snow=620;"), 1);
        due("all that can fall", full.open(10, 420, 0) * 10 + full.open(10, 419, 0), 1);
        due("as known ahead", full.open(10, 420, -1), 1);
    }

    /** "A WAY is SHUT in an HOUR, as known at k, if e holds for it." */
    private static void shutByHours() {
        SkiMountain x = two();
        due("law", Check.law(x, HEAD + "wind>50;"), 1);
        x.later(5);
        x.weather(2, 51, 0);
        x.weather(4, 50, 0);
        x.later(5);
        x.untell(0);
        int[] minutes = {119, 120, 179, 180, 239, 240, 479};
        int[] open = {1, 0, 0, 0, 0, 1, 1};
        for (int n = 0; n < minutes.length; n++) {
            due("known at 5: " + minutes[n], x.open(10, minutes[n], 5), open[n]);
            due("known at 9: " + minutes[n], x.open(10, minutes[n], 9), open[n]);
            due("known at 4: " + minutes[n], x.open(10, minutes[n], 4), 1);
            due("known at 10: " + minutes[n], x.open(10, minutes[n], 10), 1);
        }
    }

    /** A line for LIFTS shuts no RUN, and the other way round; each WAY by its own numbers. */
    private static void lawOfTheOther() {
        SkiMountain x = Check.made("lift a p0 p1 takes 5 seats 1 from 0 to 480;lift b p0 p1 takes 6 seats 1 from 0 to 480;"
            + "run c p0 p1 grade 0 takes 5 snow 0;run d p0 p1 grade 1 takes 6 snow 5;");
        due("lifts", Check.law(x, "shut lift if takes=5;"), 1);
        due("a", x.open(0, 0, 0), 0);
        due("b", x.open(1, 0, 0), 1);
        due("c", x.open(10, 0, 0), 1);
        due("runs", Check.law(x, "shut run if takes=5;"), 1);
        due("a", x.open(0, 0, 0), 1);
        due("c", x.open(10, 0, 0), 0);
        due("d", x.open(11, 0, 0), 1);
        due("by snow and grade", Check.law(x, "shut run if snow=5 and grade=1;shut lift if 1=1;"), 2);
        due("a, b", x.open(0, 0, 0) + x.open(1, 0, 0), 0);
        due("c", x.open(10, 0, 0), 1);
        due("d", x.open(11, 0, 0), 0);
    }

    // ---- 5: law

    /** law: "how many lines". */
    private static void howManyLines() {
        SkiMountain x = new SkiMountain();
        due("0", Check.law(x, ""), 0);
        due("1", Check.law(x, HEAD + "1=1;"), 1);
        due("2", Check.law(x, HEAD + "1=1;shut lift if 1=1;"), 2);
        due("0 again", Check.law(x, " "), 0);
        due("no lines of the MOUNTAIN", x.about(2), 0);
    }

    /** "NONE: a FAULT (that there is stays)." */
    private static void whatThereIsStaysAtAFault() {
        SkiMountain x = two();
        due("a LAW", Check.law(x, HEAD + "hour=1;"), 1);
        x.arrive(0, 5);
        x.day(0);
        due("a FAULT behind all", Check.law(x, HEAD + "hour=2;shut lift if 1=1;;"), NONE);
        due("HOUR 1", x.open(10, 60, 0), 0);
        due("HOUR 2", x.open(10, 120, 0), 1);
        due("LIFTS", x.open(0, 60, 0), 1);
        due("what was run", x.wait(0, 0, 0), 5);
        due("snow", x.snow(0, 0), 3000);
        due("took", x.took(0, 1), 0);
        due("the TAPE is empty", x.about(8), 0);
    }

    /** "The TAPE is the LAW (what was run is none then)": PASSES, TURNS, MAKERS stay. */
    private static void whatWasRunIsNone() {
        SkiMountain x = Check.made("lift a p0 p1 takes 5 seats 6 from 0 to 80 gate;run b p0 p1 grade 0 takes 5 snow 6;");
        x.skier(0);
        x.pass(0, 0, 9);
        x.turn(0);
        x.turn(0);
        x.make(0, 20);
        x.arrive(0, 5);
        x.day(0);
        due("was run", x.wait(0, 0, 1) * 10 + x.snow(0, 0), 80);
        due("the same LAW again", Check.law(x, ""), 0);
        due("wait", x.wait(0, 0, 0), NONE);
        due("snow", x.snow(0, 0), NONE);
        due("took", x.took(0, 0), NONE);
        due("PASSES", x.about(5), 1);
        due("TURNS", x.turn(0), 3);
        due("a day", x.day(0), 0);
        due("TURNS are taken", x.took(0, 0), 5);
        due("MAKERS", x.snow(0, 0), 80);
        due("lines of the MOUNTAIN", x.about(2), 2);
    }

    /** "(empty then)": with a FAULT and without, but not with -2. */
    private static void tapeIsEmptyThen() {
        SkiMountain x = new SkiMountain();
        due("a LAW", Check.law(x, HEAD + "1=1;"), 1);
        due("empty", x.about(8), 0);
        due("a FAULT", Check.law(x, HEAD + "1=1"), NONE);
        due("empty", x.about(8), 0);
        due("20 again", x.feed(0, 0, 0, 0, 0), 20);
    }
}
