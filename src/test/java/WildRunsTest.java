import java.util.Random;

/** Calls with any arguments in any state: none may throw, and none answers below -2. */
public final class WildRunsTest {
    private static final int[] EDGES = {Integer.MIN_VALUE, Integer.MIN_VALUE + 1, -2, -1, 0, 1, 2, 3, 4, 5, 6, 7, 8, 9,
        10, 11, 13, 16, 17, 20, 21, 60, 100, 400, 479, 480, 481, 539, 540, 541, 1000, 1001, 1 << 30,
        Integer.MAX_VALUE - 1, Integer.MAX_VALUE};
    private static final String[] TEXTS = {
        "lift a p0 p1 takes 30 seats 1 from 0 to 480 gate;run b p1 p0 grade 0 takes 60 snow 1;",
        "lift a p0 p9 takes 30 seats 1 from 479 to 480 gate;lift b p9 p0 takes 1 seats 99 from 0 to 480;"
            + "run c p0 p9 grade 3 takes 60 snow 300;run d p9 p0 grade 0 takes 1 snow 0;home p9;",
        "shut lift if hour>3 and not wind<50;shut run if snow+fresh-hour<takes or grade=3;",
        "shut run if not not (((1<2)));", "", "lift", "shut"};

    private final Random chance;
    private final SkiMountain x = new SkiMountain();

    private WildRunsTest(int run) {
        chance = new Random(run);
    }

    private int any() {
        int kind = chance.nextInt(10);
        return kind == 0 ? chance.nextInt() : kind < 4 ? EDGES[chance.nextInt(EDGES.length)] : chance.nextInt(12);
    }

    private int one() {
        switch (chance.nextInt(30)) {
            case 0: return x.feed(any(), any(), any(), any(), any());
            case 1: return x.end(any());
            case 2: return x.mountain();
            case 3: return x.law();
            case 4: return x.fault(any());
            case 5: return x.weather(any(), any(), any());
            case 6: return x.untell(any()) ? 1 : 0;
            case 7: return x.later(any());
            case 8: return x.air(any(), any(), any());
            case 9: return x.open(any(), any(), any());
            case 10: return x.soonest(any(), any(), any(), any(), any());
            case 11: return x.way(any(), any(), any(), any(), any(), any());
            case 12: return x.last(any(), any(), any());
            case 13: return x.skier(any());
            case 14: return x.pass(any(), any(), any());
            case 15: return x.unpass(any()) ? 1 : 0;
            case 16: return x.can(any(), any(), any(), any());
            case 17: return x.canOn(any(), any(), any(), any());
            case 18: return x.places(any(), any(), any());
            case 19: return x.meet(any(), any(), any(), any(), any());
            case 20: return x.arrive(any(), any());
            case 21: return x.turn(any());
            case 22: return x.make(any(), any()) ? 1 : 0;
            case 23: return x.day(any());
            case 24: return x.wait(any(), any(), any());
            case 25: return x.snow(any(), any());
            case 26: return x.took(any(), any());
            case 27: return x.sweep(any(), any());
            case 28: return x.about(any());
            default: return text();
        }
    }

    private int text() {
        x.end(0);
        Check.tape(x, Check.bytes(TEXTS[chance.nextInt(TEXTS.length)]));
        return chance.nextBoolean() ? x.mountain() : x.law();
    }

    public static void main(String[] args) {
        for (int run = 0; run < 300; run++) {
            WildRunsTest wild = new WildRunsTest(run);
            boolean low = false;
            for (int n = 0; n < 512; n++) {
                low |= wild.one() < -2;
            }
            Check.due("run " + run + " has an answer below -2", low, false);
        }
        Check.close();
    }
}
