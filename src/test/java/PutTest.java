/** Promise 2: put. */
public final class PutTest {
    private static final Check CHECK = new Check();
    private static final long BLANKS = 0x2020202020202020L;

    public static void main(String[] args) {
        lowestBytes();
        highestFirst();
        behindTheTextInHand();
        anyNumber();
        wrongCounts();
        full();
        nearlyFull();
        refusedCallChangesNothing();
        roomAfterLoad();
        CHECK.end();
    }

    /** How many bytes came, if all of them were blanks: the end is the place of the fault. */
    private static int blanksIn(ConfigTexts x) {
        Check.load(x);
        return x.fault(0) == 1 ? x.fault(1) : -9;
    }

    private static void lowestBytes() {
        CHECK.sentence("The lowest n bytes of v come to the text in hand: true");
        for (int n = 0; n <= 8; n++) {
            // Were a higher byte to come as well, it would be a word that is none.
            long higher = n == 8 ? 0 : -1L << (8 * n);
            ConfigTexts x = new ConfigTexts();
            CHECK.same("put(.., " + n + ")", x.put(n == 0 ? -1L : higher | BLANKS & ~higher, n), true);
            CHECK.same("bytes of " + n, blanksIn(x), n);
        }
    }

    private static void highestFirst() {
        CHECK.sentence("the highest of them first");
        for (int n = 1; n <= 8; n++) {
            for (int at = 0; at < n; at++) {
                // One byte that is no word among blanks: its place tells where it came.
                long v = BLANKS ^ 0x03L << (8 * (n - 1 - at));
                ConfigTexts x = new ConfigTexts();
                CHECK.same("put", x.put(v, n), true);
                CHECK.same("load()", Check.load(x), Check.THROWN);
                CHECK.same("fault of byte " + at + " of " + n, x.fault(0), 2);
                CHECK.same("place of byte " + at + " of " + n, x.fault(1), at);
            }
        }
    }

    private static void behindTheTextInHand() {
        CHECK.sentence("come to the text in hand");
        for (int n = 1; n <= 8; n++) {
            ConfigTexts x = new ConfigTexts();
            String text = Check.FULL.substring(0, Check.FULL.indexOf("process main")) + "} frame { a 1; }";
            for (int at = 0; at < text.length(); at += n) {
                String part = text.substring(at, Math.min(text.length(), at + n));
                CHECK.same("put " + part, Check.put(x, part), true);
            }
            CHECK.same("load() of pieces of " + n, Check.load(x), 1);
        }
    }

    private static void anyNumber() {
        CHECK.sentence("put(long v, int n), with the least and the greatest v");
        for (int n = 1; n <= 8; n++) {
            // No byte of these is a word.
            long[] vs = {Long.MIN_VALUE, Long.MAX_VALUE, -1, 0};
            for (long v : vs) {
                ConfigTexts x = new ConfigTexts();
                CHECK.same("put(" + v + ", " + n + ")", x.put(v, n), true);
                CHECK.same("load()", Check.load(x), Check.THROWN);
                CHECK.same("fault of " + v, x.fault(0), 2);
                CHECK.same("place in " + v, x.fault(1), 0);
            }
        }
    }

    private static void wrongCounts() {
        CHECK.sentence("false, and none come, if n is not 0 .. 8");
        int[] wrong = {
            -1, 9, 10, 16, -8, -2000, 2000, 256, 1 << 31, 1 << 30, Integer.MAX_VALUE, Integer.MAX_VALUE - 8,
            Integer.MIN_VALUE, Integer.MIN_VALUE + 8
        };
        for (int n : wrong) {
            ConfigTexts x = new ConfigTexts();
            CHECK.same("put(.., " + n + ") to no text", x.put(BLANKS, n), false);
            CHECK.same("bytes", blanksIn(x), 0);
            x.put(BLANKS, 3);
            CHECK.same("put(.., " + n + ") to 3 bytes", x.put(BLANKS, n), false);
            x.put(BLANKS, 2);
            CHECK.same("bytes", blanksIn(x), 5);
        }
        for (int n : wrong) {
            ConfigTexts x = blanks(2000);
            CHECK.same("put(.., " + n + ") to the full text", x.put(BLANKS, n), false);
            CHECK.same("bytes", blanksIn(x), 2000);
        }
    }

    private static ConfigTexts blanks(int count) {
        ConfigTexts x = new ConfigTexts();
        CHECK.same("put of " + count, Check.put(x, " ".repeat(count)), true);
        return x;
    }

    private static void full() {
        CHECK.sentence("false, and none come, if it would have more than 2000: 2000 are in hand");
        for (int n = 1; n <= 8; n++) {
            ConfigTexts x = blanks(2000);
            CHECK.same("put of " + n, x.put(BLANKS, n), false);
            CHECK.same("put of none", x.put(BLANKS, 0), true);
            CHECK.same("put of " + n + " again", x.put(BLANKS, n), false);
            CHECK.same("bytes", blanksIn(x), 2000);
        }
    }

    private static void nearlyFull() {
        CHECK.sentence("false, and none come, if it would have more than 2000: up to 8 have room");
        for (int room = 1; room <= 8; room++) {
            for (int n = 0; n <= 8; n++) {
                ConfigTexts x = blanks(2000 - room);
                CHECK.same("put of " + n + " where " + room + " have room", x.put(BLANKS, n), n <= room);
                int left = n <= room ? room - n : room;
                CHECK.same("put of the rest", x.put(BLANKS, left), true);
                CHECK.same("put of one more", x.put(BLANKS, 1), false);
                CHECK.same("bytes", blanksIn(x), 2000);
            }
        }
    }

    private static void refusedCallChangesNothing() {
        CHECK.sentence("false, and none come: what stood before stands");
        ConfigTexts x = CHECK.loaded(Check.FULL);
        String before = Check.told(x);
        x.put(-1L, 9);
        x.put(-1L, -1);
        CHECK.same("what is told", Check.told(x), before);

        ConfigTexts full = new ConfigTexts();
        Check.put(full, Check.FULL + " ".repeat(2000 - Check.FULL.length()));
        full.put(-1L, 1);
        full.put(-1L, 8);
        CHECK.same("load() of the text in hand", Check.load(full), 2);
        CHECK.same("what is told of it", Check.told(full), before);
    }

    private static void roomAfterLoad() {
        CHECK.sentence("it would have more than 2000: the text in hand alone counts");
        ConfigTexts whole = CHECK.loaded(Check.SMALL);
        CHECK.same("put of 2000 behind a whole text", Check.put(whole, " ".repeat(2000)), true);
        CHECK.same("bytes", blanksIn(whole), 2000);
        ConfigTexts x = new ConfigTexts();
        Check.put(x, "#");
        Check.load(x);
        CHECK.same("put of 2000 behind a fault", Check.put(x, " ".repeat(2000)), true);
        CHECK.same("put of one more", x.put(BLANKS, 1), false);
        CHECK.same("bytes", blanksIn(x), 2000);
    }
}
