import java.nio.charset.StandardCharsets;

/** What all tests use: counting of wrong answers, and texts put on the TAPE. */
final class Check {
    private static int asked;
    private static int wrong;

    private Check() {
    }

    static void due(String call, long got, long want) {
        asked++;
        if (got != want) {
            wrong++;
            if (wrong <= 50) {
                System.out.println(call + " answered " + got + ", due is " + want);
            }
        }
    }

    static void due(String call, boolean got, boolean want) {
        due(call, got ? 1 : 0, want ? 1 : 0);
    }

    static int wrongOnes() {
        return wrong;
    }

    /** Ends the test as .ci/run wants it. */
    static void close() {
        System.out.println(asked + " answers, " + wrong + " of them wrong");
        if (wrong != 0 || asked == 0) {
            System.exit(1);
        }
    }

    static byte[] bytes(String text) {
        return text.getBytes(StandardCharsets.ISO_8859_1);
    }

    /** Puts a text behind what is on the TAPE; false if it does not fit there in feeds. */
    static boolean tape(SkiMountain x, byte[] text) {
        int length = x.about(8);
        for (int at = 0; at < text.length; at += 20) {
            int[] five = new int[5];
            for (int i = 0; i < 20; i++) {
                int one = at + i < text.length ? text[at + i] & 255 : 0;
                five[i / 4] = five[i / 4] << 8 | one;
            }
            if (x.feed(five[0], five[1], five[2], five[3], five[4]) == SkiMountain.NONE) {
                return false;
            }
        }
        return x.end(length + text.length) == length + text.length;
    }

    static int mountain(SkiMountain x, String text) {
        x.end(0);
        due("tape of " + text, tape(x, bytes(text)), true);
        return x.mountain();
    }

    static int law(SkiMountain x, String text) {
        x.end(0);
        due("tape of " + text, tape(x, bytes(text)), true);
        return x.law();
    }
}
