import java.util.Random;

/** Texts changed in places: no call throws but load() by a fault, and the answers fit each other. */
public final class ChangedTextsTest {
    private static final Check CHECK = new Check();
    private static final String[] BITS = {
        "{", "}", ";", ":", ".", ",", ">", " ", "\n", "0", "1", "256", "100001", "1234567", "a", "b", "e", "to", "handler;",
        "stopped;", "errors", "handle", "event x;", "port p in queuing;", "channel", "frame", "partition", "input", "output",
        "memory", "sampling", "queuing", "#", "\u00e9", "\0", "abcdefghijklm"
    };

    public static void main(String[] args) {
        // The seed is fixed, so every run sees the same texts.
        Random random = new Random(20261115);
        ConfigTexts x = new ConfigTexts();
        int whole = 0;
        for (int n = 0; n < 20000; n++) {
            // Some hundred calls a text, and nothing is promised of an object behind its 512th.
            x = n % 3 == 0 ? new ConfigTexts() : x;
            String text = changed(random);
            int answer = Check.load(x, text);
            whole += answer == Check.THROWN ? 0 : 1;
            fits(x, text, answer);
            anyArguments(x, random);
        }
        CHECK.same("some texts are whole", whole > 100, true);
        CHECK.same("some texts are not", whole < 19900, true);
        CHECK.end();
    }

    private static String changed(Random random) {
        StringBuilder text = new StringBuilder(Check.FULL);
        int changes = 1 + random.nextInt(3);
        for (int k = 0; k < changes; k++) {
            int at = random.nextInt(text.length());
            int to = Math.min(text.length(), at + random.nextInt(4));
            text.replace(at, to, random.nextInt(4) == 0 ? "" : BITS[random.nextInt(BITS.length)]);
        }
        return text.toString();
    }

    /** What must hold of every answer, whatever the text. */
    private static void fits(ConfigTexts x, String text, int answer) {
        int fault = x.fault(0);
        int place = x.fault(1);
        boolean faulty = answer == Check.THROWN;
        CHECK.same("fault of " + text, faulty ? fault >= 1 && fault <= 7 : fault == 0, true);
        CHECK.same("place of " + text, faulty ? place >= 0 && place <= text.length() : place == -1, true);
        CHECK.same("size of " + text, x.size(0), faulty ? 0 : answer);
        int ticks = 0;
        for (int k = 0; k < x.size(2); k++) {
            ticks += x.window(k, 1);
        }
        CHECK.same("ticks of " + text, x.size(5), ticks);
    }

    private static void anyArguments(ConfigTexts x, Random random) {
        int[] a = new int[4];
        for (int k = 0; k < a.length; k++) {
            a[k] = random.nextInt(3) == 0 ? random.nextInt() : random.nextInt(20) - 2;
        }
        x.fault(a[0]);
        x.size(a[0]);
        x.partition(a[0], a[1]);
        x.process(a[0], a[1], a[2]);
        x.thing(a[0], a[1], a[2], a[3]);
        x.channel(a[0], a[1]);
        x.window(a[0], a[1]);
    }
}
