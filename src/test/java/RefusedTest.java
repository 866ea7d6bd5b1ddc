import java.util.ArrayList;
import java.util.Arrays;
import java.util.List;
import java.util.function.Consumer;
import java.util.function.ToIntFunction;

/**
 * "doing nothing": of two objects that were used alike, one is asked for what can't be. Whatever can be
 * seen of them, and what they do from then on, is the same.
 */
public final class RefusedTest {
    private static final int NONE = SkiMountain.NONE;
    private static final int MIN = Integer.MIN_VALUE;
    private static final int MAX = Integer.MAX_VALUE;

    private static final String HILL = "lift g p0 p1 takes 10 seats 2 from 10 to 200 gate;"
        + "lift f p1 p2 takes 5 seats 3 from 0 to 480;run r p2 p0 grade 1 takes 20 snow 30;"
        + "run s p1 p0 grade 0 takes 30 snow 1;home p0;";
    private static final String LIFT_LINE = "lift a p0 p1 takes 5 seats 6 from 7 to 8;";
    private static final String LAW = "shut run if wind>60 and grade=1;shut lift if hour=3 and wind>70;";

    private RefusedTest() {
    }

    public static void main(String[] args) {
        newObject();
        ordinaryState();
        behindAFault();
        allIsTold();
        passesAreFull();
        tapeIsFull();
        timeIsAtItsEnd();
        mountainWithAFault();
        lawWithAFault();
        lawThatIsTooLong();
        questionsChangeNothing();
        Check.close();
    }

    // ---- states

    private static void tell(SkiMountain x) {
        Check.mountain(x, HILL);
        Check.law(x, LAW);
        x.skier(1);
        x.skier(3);
        x.weather(1, 40, 3);
        x.later(10);
        x.weather(3, 75, 0);
        x.untell(0);
        x.pass(0, 0, 100);
        x.pass(1, 0, 120);
        x.pass(1, 0, 300);
        x.later(10);
        x.unpass(2);
        x.arrive(5, 40);
        x.arrive(70, 3);
        x.turn(0);
        x.turn(1);
        x.turn(11);
        x.turn(10);
        x.make(0, 2);
        x.day(15);
    }

    private static void newObject() {
        compare("a new object", x -> { }, refused(new SkiMountain()));
    }

    private static void ordinaryState() {
        compare("an ordinary state", x -> {
            tell(x);
            Check.tape(x, Check.bytes("home p7;"));
        }, refusedIn(RefusedTest::tell));
    }

    private static void behindAFault() {
        compare("behind a FAULT", x -> {
            tell(x);
            Check.mountain(x, "home p3;lift a p4 p4");
        }, refusedIn(RefusedTest::tell));
    }

    /** All but PASSES is at its most. */
    private static void fill(SkiMountain x) {
        Check.mountain(x, HILL);
        for (int n = 0; n < 60; n++) {
            x.weather(n % 8, n, n % 41);
        }
        for (int n = 0; n < 8; n++) {
            x.skier(n % 4);
        }
        for (int n = 0; n < 20; n++) {
            x.arrive(n, n + 1);
        }
        for (int n = 0; n < 6; n++) {
            x.turn(0);
        }
        x.day(0);
    }

    private static void allIsTold() {
        List<ToIntFunction<SkiMountain>> calls = refusedIn(RefusedTest::fill);
        calls.add(x -> x.weather(0, 0, 0));
        calls.add(x -> x.weather(7, 99, 40));
        calls.add(x -> x.skier(0));
        calls.add(x -> x.arrive(0, 1));
        calls.add(x -> x.turn(0));
        compare("all is told", RefusedTest::fill, calls);
    }

    private static void fillPasses(SkiMountain x) {
        Check.mountain(x, HILL);
        x.skier(1);
        x.skier(1);
        for (int n = 0; n < 100; n++) {
            x.pass(n % 2, 0, 100);
        }
        x.day(0);
    }

    private static void passesAreFull() {
        List<ToIntFunction<SkiMountain>> calls = refusedIn(RefusedTest::fillPasses);
        calls.add(x -> x.pass(0, 0, 100));
        calls.add(x -> x.pass(1, 0, 200));
        compare("PASSES are full", RefusedTest::fillPasses, calls);
    }

    private static void fillTape(SkiMountain x) {
        Check.mountain(x, HILL);
        x.skier(1);
        Check.tape(x, Check.bytes(Check.times(" ", 1380) + "home p4; lift a p4 p"));
    }

    private static void tapeIsFull() {
        List<ToIntFunction<SkiMountain>> calls = refusedIn(RefusedTest::fillTape);
        calls.add(x -> x.feed(0, 0, 0, 0, 0));
        calls.add(x -> x.feed(-1, -1, -1, -1, -1));
        calls.add(x -> x.law() + 1);
        compare("the TAPE is full", RefusedTest::fillTape, calls);
    }

    private static void fillTime(SkiMountain x) {
        Check.mountain(x, HILL);
        x.weather(0, 1, 2);
        for (int n = 0; n < 100; n++) {
            x.later(1000);
        }
        x.weather(1, 3, 4);
    }

    private static void timeIsAtItsEnd() {
        List<ToIntFunction<SkiMountain>> calls = refusedIn(RefusedTest::fillTime);
        calls.add(x -> x.later(1));
        calls.add(x -> x.later(1000));
        compare("the TIME is at its end", RefusedTest::fillTime, calls);
    }

    // ---- what can't be

    private static List<ToIntFunction<SkiMountain>> refusedIn(Consumer<SkiMountain> state) {
        SkiMountain x = new SkiMountain();
        state.accept(x);
        return refused(x);
    }

    /** All that can't be in the state that an object is in. */
    private static List<ToIntFunction<SkiMountain>> refused(SkiMountain state) {
        List<ToIntFunction<SkiMountain>> calls = new ArrayList<>();
        refusedTellings(calls, state.about(3), state.about(5), state.about(4));
        refusedOfCrowds(calls);
        refusedQuestions(calls, state.about(4));
        return calls;
    }

    private static void refusedTellings(List<ToIntFunction<SkiMountain>> calls, int tellings, int passes, int skiers) {
        calls.add(x -> x.end(-1));
        calls.add(x -> x.end(x.about(8) + 1));
        calls.add(x -> x.weather(-1, 0, 0));
        calls.add(x -> x.weather(8, 0, 0));
        calls.add(x -> x.weather(0, -1, 0));
        calls.add(x -> x.weather(0, 100, 0));
        calls.add(x -> x.weather(0, 0, -1));
        calls.add(x -> x.weather(0, 0, 41));
        calls.add(x -> x.untell(-1) ? 1 : NONE);
        calls.add(x -> x.untell(tellings) ? 1 : NONE);
        calls.add(x -> x.later(-1));
        calls.add(x -> x.later(1001));
        calls.add(x -> x.later(MAX));
        calls.add(x -> x.skier(-1));
        calls.add(x -> x.skier(4));
        calls.add(x -> x.pass(-1, 0, 0));
        calls.add(x -> x.pass(skiers, 0, 0));
        calls.add(x -> x.pass(0, 1, 0));
        calls.add(x -> x.pass(0, 2, 0));
        calls.add(x -> x.pass(0, 10, 0));
        calls.add(x -> x.pass(0, 0, -1));
        calls.add(x -> x.pass(0, 0, 480));
        calls.add(x -> x.unpass(-1) ? 1 : NONE);
        calls.add(x -> x.unpass(passes) ? 1 : NONE);
    }

    private static void refusedOfCrowds(List<ToIntFunction<SkiMountain>> calls) {
        calls.add(x -> x.arrive(-1, 1));
        calls.add(x -> x.arrive(480, 1));
        calls.add(x -> x.arrive(0, 0));
        calls.add(x -> x.arrive(0, 501));
        calls.add(x -> x.turn(-1));
        calls.add(x -> x.turn(2));
        calls.add(x -> x.turn(9));
        calls.add(x -> x.turn(12));
        calls.add(x -> x.make(-1, 20) ? 1 : NONE);
        calls.add(x -> x.make(2, 20) ? 1 : NONE);
        calls.add(x -> x.make(10, 20) ? 1 : NONE);
        calls.add(x -> x.make(0, -1) ? 1 : NONE);
        calls.add(x -> x.make(0, 21) ? 1 : NONE);
    }

    private static void refusedQuestions(List<ToIntFunction<SkiMountain>> calls, int skiers) {
        calls.add(x -> x.fault(2));
        calls.add(x -> x.air(8, 0, 0));
        calls.add(x -> x.air(0, 2, 0));
        calls.add(x -> x.open(9, 0, 0));
        calls.add(x -> x.open(0, 481, 0));
        calls.add(x -> x.soonest(4, 0, 0, 0, 0));
        calls.add(x -> x.soonest(0, 0, 481, 0, 0));
        calls.add(x -> x.way(0, 0, 0, 0, 0, 0));
        calls.add(x -> x.last(0, 10, 0));
        calls.add(x -> x.can(skiers, 0, 0, 0));
        calls.add(x -> x.can(0, 10, 0, 0));
        calls.add(x -> x.canOn(0, 9, 0, 0));
        calls.add(x -> x.places(0, 541, 0));
        calls.add(x -> x.meet(0, 0, 0, 0, 0));
        calls.add(x -> x.wait(0, 480, 0));
        calls.add(x -> x.snow(2, 0));
        calls.add(x -> x.took(0, 2));
        calls.add(x -> x.sweep(0, 3));
        calls.add(x -> x.sweep(10, 1));
        calls.add(x -> x.about(10));
    }

    // ---- the two objects

    private static void compare(String state, Consumer<SkiMountain> build, List<ToIntFunction<SkiMountain>> calls) {
        SkiMountain one = new SkiMountain();
        SkiMountain other = new SkiMountain();
        build.accept(one);
        build.accept(other);
        for (int n = 0; n < calls.size(); n++) {
            Check.due(state + ": refused call " + n, calls.get(n).applyAsInt(other), NONE);
        }
        same(state, one, other);
    }

    private static void same(String state, SkiMountain one, SkiMountain other) {
        List<Integer> want = seen(one);
        List<Integer> got = seen(other);
        Check.due(state + ": as many answers", got.size(), want.size());
        for (int n = 0; n < Math.min(got.size(), want.size()); n++) {
            Check.due(state + ": what is seen " + n, got.get(n), want.get(n));
        }
    }

    /** All that can be seen of an object, and at last what it does when more is told. */
    private static List<Integer> seen(SkiMountain x) {
        List<Integer> all = new ArrayList<>();
        for (int what = 0; what <= 9; what++) {
            all.add(x.about(what));
        }
        all.add(x.fault(0));
        all.add(x.fault(1));
        seenOfTheDay(x, all);
        seenAsKnown(x, all, x.about(7));
        all.add(x.day(x.about(7)));
        seenOfTheDay(x, all);
        seenOfWhatIsToldThen(x, all);
        return all;
    }

    private static void seenOfTheDay(SkiMountain x, List<Integer> all) {
        for (int minute : new int[] {0, 75, 479}) {
            for (int p = 0; p <= 2; p++) {
                all.add(x.wait(p, minute, 0));
                all.add(x.wait(p, minute, 1));
            }
            all.add(x.snow(0, minute));
            all.add(x.snow(1, minute));
        }
        for (int way : new int[] {0, 1, 10, 11}) {
            all.add(x.took(way, 0));
            all.add(x.took(way, 1));
        }
    }

    private static void seenAsKnown(SkiMountain x, List<Integer> all, int k) {
        for (int hour = 0; hour < 8; hour++) {
            all.add(x.air(hour, 0, k));
            all.add(x.air(hour, 1, k));
            all.add(x.open(hour % 2, 60 * hour, k));
            all.add(x.open(10 + hour % 2, 60 * hour, k));
        }
        for (int p = 0; p <= 2; p++) {
            all.add(x.last(3, p, k));
            all.add(x.soonest(3, 0, 0, p, k));
            all.add(x.way(3, 0, 0, p, 1, k));
        }
        for (int skier = 0; skier < 8; skier++) {
            all.add(x.places(skier, 0, k));
            all.add(x.places(skier, 130, k));
            all.add(x.can(skier, 0, 540, k));
        }
        all.add(x.meet(0, 1, 1, 0, k));
        all.add(x.sweep(0, 1));
        all.add(x.sweep(0, 2));
    }

    private static void seenOfWhatIsToldThen(SkiMountain x, List<Integer> all) {
        all.add(x.skier(2));
        all.add(x.weather(0, 1, 2));
        all.add(x.pass(0, 0, 9));
        all.add(x.arrive(0, 1));
        all.add(x.turn(0));
        all.add(x.turn(1));
        all.add(x.later(1));
        all.add(x.untell(0) ? 1 : 0);
        all.add(x.untell(1) ? 1 : 0);
        all.add(x.unpass(0) ? 1 : 0);
        all.add(x.unpass(2) ? 1 : 0);
        all.add(x.mountain());
        all.add(x.fault(0));
        all.add(x.fault(1));
        all.add(x.about(2));
        all.add(x.about(9));
    }

    // ---- texts that can't be

    /** mountain: at a FAULT all stays but the TAPE and the FAULT. */
    private static void mountainWithAFault() {
        for (String text : new String[] {"$", "lift", "home p9;home", LIFT_LINE + "run a p1 p2", "home p5;lift a p4 p4"}) {
            SkiMountain one = new SkiMountain();
            SkiMountain other = new SkiMountain();
            tell(one);
            tell(other);
            Check.mountain(one, "$");
            Check.due("mountain " + text, Check.mountain(other, text), NONE);
            Check.due("a FAULT of its own", other.fault(0) > 0, true);
            Check.mountain(other, "$");
            same("behind the mountain " + text, one, other);
            Check.due("as at first", seenWithoutFault(toldAndThen(text)), seenWithoutFault(told()));
        }
    }

    private static SkiMountain told() {
        SkiMountain x = new SkiMountain();
        tell(x);
        return x;
    }

    private static SkiMountain toldAndThen(String mountain) {
        SkiMountain x = told();
        Check.mountain(x, mountain);
        return x;
    }

    /** A number made of all that is seen but the FAULT. */
    private static int seenWithoutFault(SkiMountain x) {
        List<Integer> all = seen(x);
        all.set(10, 0);
        all.set(11, 0);
        return Arrays.hashCode(all.toArray());
    }

    /** law: at a FAULT all stays but the TAPE and the FAULT. */
    private static void lawWithAFault() {
        for (String text : new String[] {"$", "shut", "shut lift if 1=1;shut", "shut run if 1=1;shut lift if snow",
            "shut run if " + Check.times("1+", 39) + "1=1;"}) {
            SkiMountain x = told();
            Check.due("law " + text, Check.law(x, text), NONE);
            Check.due("a FAULT of its own", x.fault(0) > 0, true);
            Check.due("as at first behind the law " + text, seenWithoutFault(x), seenWithoutFault(told()));
        }
    }

    /** law: at -2 all stays. */
    private static void lawThatIsTooLong() {
        for (int bytes : new int[] {501, 502, 1400}) {
            String text = "shut run if 1=1;" + Check.times(" ", bytes - 16);
            SkiMountain one = told();
            SkiMountain other = told();
            Check.tape(one, Check.bytes(text));
            Check.due("law of " + bytes, Check.law(other, text), -2);
            same("behind a law of " + bytes, one, other);
        }
    }

    /** What is asked and answered changes nothing either. */
    private static void questionsChangeNothing() {
        SkiMountain one = told();
        SkiMountain other = told();
        // two rounds of questions: with what follows they stay below 512 calls
        for (int k : new int[] {MIN, 9}) {
            List<Integer> answers = new ArrayList<>();
            seenAsKnown(other, answers, k);
            seenOfTheDay(other, answers);
            other.meet(0, 1, 0, 0, k);
            other.canOn(1, 0, 125, k);
        }
        same("behind questions", one, other);
    }
}
