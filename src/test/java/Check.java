/** What the tests share: texts put into objects, answers compared, faults at a marked byte. */
final class Check {
    /** A whole configuration with something of everything; the tests change it in places. */
    static final String FULL =
        "partition a { memory 512; process main { entry 0; priority 2; }"
        + " process bad { entry 128; priority 5; period 7; deadline 90; stopped; }"
        + " process hand { entry 508; priority 15; handler; }"
        + " buffer box 1; buffer big 8; semaphore s 2 : 9; semaphore z 0 : 1; event e; board w;"
        + " port to out queuing; port say out sampling; port more out sampling;"
        + " errors { illegal : handle; late : again; } }\n"
        + "partition b { memory 256; port from in queuing; port hear in sampling; port free in sampling; }\n"
        + "channel queuing 2 { a.to > b.from }\n"
        + "channel sampling 5 { a.say > b.hear, output }\n"
        + "channel queuing 1 { input > output }\n"
        + "frame { a 10; b 6; a 4; }";

    private int wrong;

    void same(String call, long got, long want) {
        if (got != want) {
            wrong++;
            System.out.println(call + " answered " + got + ", due is " + want);
        }
    }

    void same(String call, boolean got, boolean want) {
        same(call, got ? 1 : 0, want ? 1 : 0);
    }

    /** A row of answers: call(from), call(from + 1), .. */
    void row(String call, int from, int[] got, int... want) {
        same(call + " answers", got.length, want.length);
        for (int k = 0; k < Math.min(got.length, want.length); k++) {
            same(call + " number " + (from + k), got[k], want[k]);
        }
    }

    /** Puts a text of characters 0 to 255, eight bytes a call. */
    static boolean put(ConfigTexts x, String text) {
        boolean all = true;
        for (int at = 0; at < text.length(); at += 8) {
            int n = Math.min(8, text.length() - at);
            long v = 0;
            for (int k = 0; k < n; k++) {
                v = v << 8 | text.charAt(at + k);
            }
            all &= x.put(v, n);
        }
        return all;
    }

    /** What load() answers, or -7 if it throws IllegalArgumentException. */
    static int load(ConfigTexts x, String text) {
        put(x, text);
        try {
            return x.load();
        } catch (IllegalArgumentException fault) {
            return -7;
        }
    }

    ConfigTexts loaded(String text) {
        ConfigTexts x = new ConfigTexts();
        if (load(x, text) == -7) {
            wrong++;
            System.out.println(text + "\n  has fault " + x.fault(0) + " at " + x.fault(1) + ", due is none");
        }
        return x;
    }

    void fine(String text) {
        loaded(text);
    }

    /** The text without its mark ^ has the fault where the mark stood. */
    void fault(int fault, String marked) {
        int place = marked.indexOf('^');
        String text = marked.substring(0, place) + marked.substring(place + 1);
        ConfigTexts x = new ConfigTexts();
        int answer = load(x, text);
        if (answer != -7 || x.fault(0) != fault || x.fault(1) != place) {
            wrong++;
            System.out.println(marked + "\n  answered " + answer + ", fault " + x.fault(0) + " at " + x.fault(1)
                + ", due is fault " + fault + " at " + place);
        }
    }

    /** A fault inside a partition of 256 bytes, behind its memory. */
    void faultInside(int fault, String marked) {
        fault(fault, "partition a { memory 256; " + marked);
    }

    static String times(int n, String form) {
        StringBuilder all = new StringBuilder();
        for (int k = 0; k < n; k++) {
            all.append(form.replace("#", Integer.toString(k)));
        }
        return all.toString();
    }

    void end() {
        if (wrong != 0) {
            System.out.println(wrong + " answers are not as due");
            System.exit(1);
        }
    }
}
