/** The Terms: fault 4 (one more than there may be), and what it is ahead of. */
public final class LimitFaultsTest {
    private static final Check CHECK = new Check();
    private static final String[] INSTEAD = {"^x", "^5", "^;", "^}", "^memory", "^"};

    public static void main(String[] args) {
        things();
        partitions();
        channels();
        goals();
        windows();
        CHECK.end();
    }

    private static void things() {
        full(8, "process n# { entry 0; priority 0; } ", "process ");
        full(4, "semaphore n# 0 : 1; ", "semaphore ");
        full(4, "event n#; ", "event ");
        full(4, "buffer n# 8; ", "buffer ");
        full(4, "board n#; ", "board ");
        full(8, "port n# in sampling; ", "port ");
    }

    private static void full(int most, String form, String word) {
        String all = Check.times(most, form);
        CHECK.fine("partition a { memory 256; " + all + "} frame { a 1; }");
        CHECK.faultInside(4, all + word + "^n0");
        for (String instead : INSTEAD) {
            CHECK.faultInside(4, all + word + instead);
        }
    }

    private static void partitions() {
        String all = Check.times(8, "partition n# { memory 256; } ");
        CHECK.fine(all + "frame { n0 1; }");
        CHECK.fault(4, all + "partition ^n0");
        for (String instead : INSTEAD) {
            CHECK.fault(4, all + "partition " + instead);
        }
        CHECK.fault(1, all + "^5");
    }

    private static void channels() {
        String all = "partition a { memory 256; } " + Check.times(16, "channel sampling # { input > output } ");
        CHECK.fine(all + "frame { a 1; }");
        CHECK.fault(4, all + "^channel");
        CHECK.fault(4, all + "^channel queuing 0 { }");
        CHECK.fault(2, all + "^channels9999999");
        CHECK.fault(1, all + "^channels");
        CHECK.fault(1, all + "^");
    }

    private static void goals() {
        String head = "partition a { memory 256; port i in sampling; } channel sampling 0 { input > ";
        CHECK.fine(head + "output, a.i, output, output } frame { a 1; }");
        String all = head + "output, output, output, output, ";
        CHECK.fault(4, all + "^output }");
        CHECK.fault(4, all + "^a.i }");
        CHECK.fault(4, all + "^b.i }");
        for (String instead : INSTEAD) {
            CHECK.fault(4, all + instead);
        }
        CHECK.fault(2, all + "^#");
    }

    private static void windows() {
        String all = "partition a { memory 256; } frame { " + Check.times(16, "a 1; ");
        CHECK.fine(all + "}");
        CHECK.fault(4, all + "^a 1; }");
        CHECK.fault(4, all + "^b 1; }");
        CHECK.fault(4, all + "^5");
        CHECK.fault(4, all + "^");
        CHECK.fault(2, all + "^A");
    }
}
