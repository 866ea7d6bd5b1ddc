import java.util.ArrayList;
import java.util.List;
import java.util.Random;

/** Days of many people, little snow and WAYS that are left out now and then, against Plain's one by one. */
public final class CrowdsTest {
    private static final int DAYS = 300;

    private final Random chance;
    private final SkiMountain x = new SkiMountain();
    private final Plain y = new Plain();
    private final int number;

    private CrowdsTest(int number) {
        this.number = number;
        chance = new Random(1000 + number);
    }

    public static void main(String[] args) {
        int days = args.length > 0 ? Integer.parseInt(args[0]) : DAYS;
        for (int number = 0; number < days && Check.wrongOnes() == 0; number++) {
            new CrowdsTest(number).go();
        }
        Check.close();
    }

    private void due(String call, long got, long want) {
        Check.due("day " + number + ", " + call, got, want);
    }

    private int upTo(int bound) {
        return chance.nextInt(bound);
    }

    private void go() {
        tellTexts();
        tellWeather();
        tellTurns();
        tellArrivals();
        oneDay();
        // another one behind it, with more of all
        tellArrivals();
        tellWeather();
        oneDay();
    }

    private void tellTexts() {
        StringBuilder b = new StringBuilder();
        int lifts = 1 + upTo(3);
        int runs = 2 + upTo(4);
        for (int i = 0; i < lifts; i++) {
            int from = upTo(3) * 60 + upTo(3);
            b.append("lift l").append((char) ('a' + i)).append(ends()).append(" takes ").append(1 + upTo(9)).append(" seats ")
                .append(1 + upTo(12)).append(" from ").append(from).append(" to ").append(from + 1 + upTo(200)).append(";");
        }
        for (int i = 0; i < runs; i++) {
            b.append("run r").append((char) ('a' + i)).append(ends()).append(" grade ").append(upTo(4)).append(" takes ")
                .append(1 + upTo(12)).append(" snow ").append(upTo(3) == 0 ? 0 : upTo(9)).append(";");
        }
        String mountain = b.append("home p").append(upTo(3) + 7).append(";").toString();
        y.tape.append(mountain);
        due("mountain " + mountain, Check.mountain(x, mountain), y.mountain());
        String law = "shut lift if wind>60 and not takes<5;shut run if (wind>40 and grade=3) or hour=" + upTo(8) + "+grade;";
        y.tape.append(law);
        due("law " + law, Check.law(x, law), y.law());
    }

    /** Among p7, p8 and p9, so that many come by the same P again and again. */
    private String ends() {
        int from = upTo(3);
        return " p" + (from + 7) + " p" + ((from + 1 + upTo(2)) % 3 + 7);
    }

    private void tellWeather() {
        for (int i = upTo(6); i > 0; i--) {
            int hour = upTo(8);
            int wind = upTo(100);
            int fresh = upTo(3) == 0 ? upTo(6) : 0;
            due("weather", x.weather(hour, wind, fresh), y.weather.size());
            y.weather.add(new Plain.Told(0, hour, wind, fresh));
        }
    }

    private void tellTurns() {
        for (Plain.Way w : y.ways) {
            if (!w.lift && upTo(3) == 0) {
                y.makers[w.number - 10] = upTo(4);
                due("make", x.make(w.number - 10, y.makers[w.number - 10]) ? 1 : 0, 1);
            }
        }
        for (int i = 0; i < 18; i++) {
            Plain.Way w = y.ways.get(upTo(y.ways.size()));
            List<Integer> row = y.turns.computeIfAbsent(w.from, p -> new ArrayList<>());
            if (row.size() < 6) {
                row.add(w.number);
                due("turn", x.turn(w.number), row.size());
            }
        }
    }

    private void tellArrivals() {
        for (int i = 1 + upTo(6); i > 0; i--) {
            int minute = upTo(2) == 0 ? upTo(480) : upTo(5) * 60 + 57 + upTo(6);
            int many = upTo(3) == 0 ? 1 + upTo(200) : 1 + upTo(20);
            y.arrivals.add(new int[] {minute, many});
            due("arrive", x.arrive(minute, many), y.arrivals.size());
        }
    }

    private void oneDay() {
        due("day", x.day(0), y.day(0));
        for (int n = 0; n < 20; n++) {
            int minute = n < 10 ? upTo(480) : upTo(8) * 60 + (n % 2 == 0 ? 0 : 59);
            for (int p = 7; p <= 9; p++) {
                due("wait(" + p + ", " + minute + ", 0)", x.wait(p, minute, 0), y.undecidedThen[minute][p]);
                due("wait(" + p + ", " + minute + ", 1)", x.wait(p, minute, 1), y.queuedThen[minute][p]);
            }
        }
        for (Plain.Way w : y.ways) {
            due("took(" + w.number + ", 0)", x.took(w.number, 0), y.taken[w.number]);
            due("took(" + w.number + ", 1)", x.took(w.number, 1), y.longest[w.number]);
            for (int minute = 59; minute < 480 && !w.lift; minute += 60) {
                due("snow(" + w.number + ", " + minute + ")", x.snow(w.number - 10, minute), y.snowThen[minute][w.number - 10]);
            }
        }
    }
}
