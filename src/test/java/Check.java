import java.util.function.IntUnaryOperator;

/** What the tests share: texts put into objects, answers compared, faults at a marked byte. */
final class Check {
    /** A whole configuration with something of everything; the tests change it in places. */
    static final String FULL =
        "partition a { memory 512; process main { entry 0; priority 2; }"
        + " process bad { entry 128; priority 5; period 7; deadline 90; stopped; }"
        + " process hand { entry 508; priority 15; handler; }"
        + " buffer box 1; buffer big 8; semaphore s 2 : 9; semaphore z 0 : 1; event e; board w;"
        + " port to out queuing; port say out sampling; port more out sampling;"
        + " errors { illegal : handle; late : again; } }\n"
        + "partition b { memory 256; port from in queuing; port hear in sampling; port free in sampling; }\n"
        + "channel queuing 2 { a.to > b.from }\n"
        + "channel sampling 5 { a.say > b.hear, output }\n"
        + "channel queuing 1 { input > output }\n"
        + "frame { a 10; b 6; a 4; }";

    /** The smallest configuration; its one partition is p. */
    static final String SMALL = "partition p{memory 256;}frame{p 1;}";

    /** The words that are no names. */
    static final String[] WORDS = ("partition memory process entry priority period deadline handler stopped semaphore"
        + " event buffer board port in out errors channel sampling queuing input output frame").split(" ");

    /** What load() stands for in a comparison when it throws IllegalArgumentException. */
    static final int THROWN = -7;

    private String sentence = "";
    private int wrong;

    /** The sentence of the document that the following comparisons are about. */
    void sentence(String words) {
        sentence = words;
    }

    private void report(String what) {
        wrong++;
        System.out.println("\"" + sentence + "\"\n  " + what);
    }

    void same(String call, long got, long want) {
        if (got != want) {
            report(call + " answered " + got + ", due is " + want);
        }
    }

    void same(String call, boolean got, boolean want) {
        same(call, got ? 1 : 0, want ? 1 : 0);
    }

    void same(String what, String got, String want) {
        if (!got.equals(want)) {
            report(what + "\n  was " + want + "\n  is  " + got);
        }
    }

    /** A row of answers: those to 0, to 1, .. */
    void row(String call, IntUnaryOperator answer, int... want) {
        for (int k = 0; k < want.length; k++) {
            same(call + " " + k, answer.applyAsInt(k), want[k]);
        }
    }

    /** NONE is due below 0 and from a bound on, also where an int that is doubled or counted on wraps around. */
    void noneBeyond(String call, int bound, IntUnaryOperator answer) {
        int[] beyond = {
            -1, -2, -bound, bound, bound + 1, 1 << 8, 1 << 16, 1 << 28, 1 << 29, 1 << 30, -(1 << 29), -(1 << 30),
            Integer.MAX_VALUE - 1, Integer.MAX_VALUE, Integer.MIN_VALUE, Integer.MIN_VALUE + 1, Integer.MIN_VALUE + 4
        };
        for (int k : beyond) {
            if (k < 0 || k >= bound) {
                same(call + " " + k, answer.applyAsInt(k), ConfigTexts.NONE);
            }
        }
    }

    /** Puts a text of characters 0 to 255, eight bytes a call. */
    static boolean put(ConfigTexts x, String text) {
        boolean all = true;
        for (int at = 0; at < text.length(); at += 8) {
            int n = Math.min(8, text.length() - at);
            long v = 0;
            for (int k = 0; k < n; k++) {
                v = v << 8 | text.charAt(at + k);
            }
            all &= x.put(v, n);
        }
        return all;
    }

    static int load(ConfigTexts x) {
        try {
            return x.load();
        } catch (IllegalArgumentException fault) {
            // The one that the document names, not one of the classes below it.
            return fault.getClass() == IllegalArgumentException.class ? THROWN : THROWN - 1;
        }
    }

    static int load(ConfigTexts x, String text) {
        put(x, text);
        return load(x);
    }

    ConfigTexts loaded(String text) {
        ConfigTexts x = new ConfigTexts();
        if (!put(x, text)) {
            report(text + "\n  has no room in one object");
        }
        if (load(x) == THROWN) {
            report(text + "\n  has fault " + x.fault(0) + " at " + x.fault(1) + ", due is none");
        }
        return x;
    }

    void fine(String text) {
        loaded(text);
    }

    /** The text without its mark ^ has the fault where the mark stood. */
    void fault(int fault, String marked) {
        int place = marked.indexOf('^');
        faultAt(fault, place, marked.substring(0, place) + marked.substring(place + 1));
    }

    void faultAt(int fault, int place, String text) {
        ConfigTexts x = new ConfigTexts();
        if (!put(x, text)) {
            report(text + "\n  has no room in one object");
        }
        int answer = load(x);
        if (answer != THROWN || x.fault(0) != fault || x.fault(1) != place) {
            report(text + "\n  answered " + answer + ", fault " + x.fault(0) + " at " + x.fault(1)
                + ", due is fault " + fault + " at " + place);
        }
    }

    /** A fault inside a partition of 256 bytes, behind its memory. */
    void faultInside(int fault, String marked) {
        fault(fault, "partition a { memory 256; " + marked);
    }

    /** What stands inside a partition of 256 bytes, behind its memory, is fine. */
    void fineInside(String things) {
        fine("partition a { memory 256; " + things + " } frame { a 1; }");
    }

    static String times(int n, String form) {
        StringBuilder all = new StringBuilder();
        for (int k = 0; k < n; k++) {
            all.append(form.replace("#", Integer.toString(k)));
        }
        return all.toString();
    }

    /** All that an object tells of a configuration of the size of FULL, in some 130 calls. */
    static String told(ConfigTexts x) {
        StringBuilder all = new StringBuilder();
        add(all, 2, x::fault);
        add(all, 6, x::size);
        for (int k = 0; k < 3; k++) {
            int n = k;
            add(all, 8, what -> x.channel(n, what));
            add(all, 2, what -> x.window(n, what));
            add(all, 5, what -> x.process(0, n, what));
            add(all, 3, what -> x.thing(0, 2, n, what));
            add(all, 3, what -> x.thing(1, 2, n, what));
        }
        for (int k = 0; k < 2; k++) {
            int n = k;
            add(all, 12, what -> x.partition(n, what));
            add(all, 2, what -> x.thing(0, 0, n, what));
            add(all, 1, what -> x.thing(0, 1, n, what));
        }
        return all.toString();
    }

    private static void add(StringBuilder all, int n, IntUnaryOperator answer) {
        for (int k = 0; k < n; k++) {
            all.append(answer.applyAsInt(k)).append(k + 1 < n ? " " : "; ");
        }
    }

    void end() {
        if (wrong != 0) {
            System.out.println(wrong + " answers are not as due");
            System.exit(1);
        }
    }
}
