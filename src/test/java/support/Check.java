import java.nio.charset.StandardCharsets;

/** What all tests use: counting of wrong answers, and texts put on the TAPE. */
final class Check {
    private static int asked;
    private static int wrong;

    private Check() {
    }

    static void due(String call, long got, long want) {
        asked++;
        if (got != want) {
            wrong++;
            if (wrong <= 50) {
                System.out.println(call + " answered " + got + ", due is " + want);
            }
        }
    }

    static void due(String call, boolean got, boolean want) {
        due(call, got ? 1 : 0, want ? 1 : 0);
    }

    static int wrongOnes() {
        return wrong;
    }

    /** Ends the test as .ci/run wants it. */
    static void close() {
        System.out.println(asked + " answers, " + wrong + " of them wrong");
        if (wrong != 0 || asked == 0) {
            System.exit(1);
        }
    }

    static byte[] bytes(String text) {
        return text.getBytes(StandardCharsets.ISO_8859_1);
    }

    /** Puts a text behind what is on the TAPE; false if it does not fit there in feeds. */
    static boolean tape(SkiMountain x, byte[] text) {
        int length = x.about(8);
        for (int at = 0; at < text.length; at += 20) {
            int[] five = new int[5];
            for (int i = 0; i < 20; i++) {
                int one = at + i < text.length ? text[at + i] & 255 : 0;
                five[i / 4] = five[i / 4] << 8 | one;
            }
            if (x.feed(five[0], five[1], five[2], five[3], five[4]) == SkiMountain.NONE) {
                return false;
            }
        }
        return x.end(length + text.length) == length + text.length;
    }

    static int mountain(SkiMountain x, String text) {
        x.end(0);
        due("tape of " + text, tape(x, bytes(text)), true);
        return x.mountain();
    }

    static int law(SkiMountain x, String text) {
        x.end(0);
        due("tape of " + text, tape(x, bytes(text)), true);
        return x.law();
    }

    /** A new object with a MOUNTAIN that can be. */
    static SkiMountain made(String mountain) {
        SkiMountain x = new SkiMountain();
        due("can be: " + mountain, mountain(x, mountain) >= 0, true);
        return x;
    }

    /** A text has so many lines and no FAULT, on a new object. */
    static void good(boolean law, String text, int lines) {
        SkiMountain x = new SkiMountain();
        due("lines of " + text, law ? law(x, text) : mountain(x, text), lines);
        due("no fault of " + text, x.fault(0), 0);
        due("no place in " + text, x.fault(1), SkiMountain.NONE);
        due("TAPE behind " + text, x.about(8), 0);
    }

    /** A text has a FAULT at a place, on a new object. */
    static void bad(boolean law, String text, int fault, int place) {
        SkiMountain x = new SkiMountain();
        due("answer for " + text, law ? law(x, text) : mountain(x, text), SkiMountain.NONE);
        due("fault of " + text, x.fault(0), fault);
        due("place in " + text, x.fault(1), place);
        due("TAPE behind " + text, x.about(8), 0);
    }

    static String times(String one, int many) {
        StringBuilder b = new StringBuilder();
        for (int n = 0; n < many; n++) {
            b.append(one);
        }
        return b.toString();
    }
}
