import java.util.ArrayList;
import java.util.List;
import java.util.Random;

/** SWEEPS of many RUNS against all orders in which they can be begun, none left out. */
public final class SweepsTest {
    private static final int FAR = 1000000;

    private final List<Plain.Way> runs = new ArrayList<>();
    private final int[][] between = new int[10][10];
    private int best;

    private SweepsTest(Plain mountain) {
        for (int[] row : between) {
            java.util.Arrays.fill(row, FAR);
        }
        for (int p = 0; p < 10; p++) {
            between[p][p] = 0;
        }
        for (Plain.Way w : mountain.ways) {
            between[w.from][w.to] = Math.min(between[w.from][w.to], w.takes);
            if (!w.lift) {
                runs.add(w);
            }
        }
        for (int over = 0; over < 10; over++) {
            for (int a = 0; a < 10; a++) {
                for (int b = 0; b < 10; b++) {
                    between[a][b] = Math.min(between[a][b], between[a][over] + between[over][b]);
                }
            }
        }
    }

    private int least(int p, int patrollers) {
        best = FAR;
        go(new int[] {p, p}, new int[2], patrollers, new int[runs.size()], 0);
        return best == FAR ? -1 : best;
    }

    private void go(int[] stands, int[] free, int patrollers, int[] sweptAt, int many) {
        if (many == runs.size()) {
            best = Math.min(best, Math.max(free[0], free[1]));
        }
        for (int run = 0; run < runs.size(); run++) {
            Plain.Way w = runs.get(run);
            int ready = sweptAt[run] == 0 ? 0 : FAR;
            for (int other = 0; other < runs.size(); other++) {
                if (runs.get(other).to == w.from) {
                    ready = Math.max(ready, sweptAt[other] == 0 ? FAR : sweptAt[other]);
                }
            }
            for (int one = 0; one < patrollers && ready < FAR; one++) {
                int start = Math.max(ready, free[one] + between[stands[one]][w.from]);
                if (start < FAR) {
                    int[] then = stands.clone();
                    int[] freeThen = free.clone();
                    int[] sweptThen = sweptAt.clone();
                    then[one] = w.to;
                    freeThen[one] = start + w.takes;
                    sweptThen[run] = start + w.takes;
                    go(then, freeThen, patrollers, sweptThen, many + 1);
                }
            }
        }
    }

    private static String mountain(Random chance, int n) {
        StringBuilder b = new StringBuilder();
        int places = 3 + chance.nextInt(5);
        int runs = n % 25 < 2 ? 7 : 3 + chance.nextInt(4);
        // in every second one the RUNS are short beside the LIFTS
        int longest = n % 2 == 0 ? 60 : 6;
        for (int i = 0; i < runs; i++) {
            // mostly downhill, from a high number to a low one, so that there is seldom a ring
            int from = 1 + chance.nextInt(places - 1);
            int to = chance.nextInt(30) == 0 ? (from + 1) % places : chance.nextInt(from);
            b.append("run r").append((char) ('a' + i)).append(" p").append(from).append(" p").append(to)
                .append(" grade ").append(chance.nextInt(4)).append(" takes ").append(1 + chance.nextInt(longest))
                .append(" snow 0;");
        }
        for (int i = 0; i < 6; i++) {
            int from = chance.nextInt(places - 1);
            int to = from + 1 + chance.nextInt(places - 1 - from);
            b.append("lift l").append((char) ('a' + i)).append(" p").append(from).append(" p").append(to)
                .append(" takes ").append(1 + chance.nextInt(30)).append(" seats 1 from 0 to 1;");
        }
        return b.toString();
    }

    public static void main(String[] args) {
        Random chance = new Random(29);
        for (int n = 0; n < 250; n++) {
            String text = mountain(chance, n);
            SkiMountain x = new SkiMountain();
            Plain y = new Plain();
            y.tape.append(text);
            Check.due(text, Check.mountain(x, text), y.mountain());
            SweepsTest all = new SweepsTest(y);
            for (int p = 0; p < 10; p += n % 25 < 2 ? 4 : 1) {
                Check.due("sweep(" + p + ", 1) of " + text, x.sweep(p, 1), all.least(p, 1));
                Check.due("sweep(" + p + ", 2) of " + text, x.sweep(p, 2), all.least(p, 2));
            }
        }
        Check.close();
    }
}
