/** Promise 7: process. */
public final class ProcessTest {
    private static final Check CHECK = new Check();

    public static void main(String[] args) {
        ConfigTexts x = CHECK.loaded(Check.FULL);
        CHECK.row("process 0", -1, all(x, 0, 0), -1, 0, 2, 0, 0, 0, -1);
        CHECK.row("process 1", -1, all(x, 0, 1), -1, 128, 5, 7, 90, 1, -1);
        CHECK.row("process 2", -1, all(x, 0, 2), -1, 508, 15, 0, 0, 0, -1);
        int[] none = {-1, 3, 8, Integer.MIN_VALUE, Integer.MAX_VALUE};
        for (int k : none) {
            CHECK.row("process " + k, -1, all(x, 0, k), -1, -1, -1, -1, -1, -1, -1);
            CHECK.row("partition " + k, -1, all(x, k, 0), -1, -1, -1, -1, -1, -1, -1);
        }
        CHECK.row("none in partition 1", -1, all(x, 1, 0), -1, -1, -1, -1, -1, -1, -1);
        CHECK.same("process least", x.process(0, 1, Integer.MIN_VALUE), -1);
        CHECK.same("process most", x.process(0, 1, Integer.MAX_VALUE), -1);
        ways();
        CHECK.end();
    }

    private static void ways() {
        String head = "partition a{memory 4096;process p{entry 4092;priority 15;";
        String tail = "}}frame{a 1;}";
        CHECK.row("period", -1, all(CHECK.loaded(head + "period 100000;" + tail), 0, 0), -1, 4092, 15, 100000, 0, 0, -1);
        CHECK.row("deadline", -1, all(CHECK.loaded(head + "deadline 100000;" + tail), 0, 0), -1, 4092, 15, 0, 100000, 0, -1);
        CHECK.row("least", -1, all(CHECK.loaded(head + "period 1;deadline 1;" + tail), 0, 0), -1, 4092, 15, 1, 1, 0, -1);
        CHECK.row("stopped", -1, all(CHECK.loaded(head + "stopped;" + tail), 0, 0), -1, 4092, 15, 0, 0, 1, -1);
        CHECK.row("all", -1, all(CHECK.loaded(head + "period 000002;deadline 3;handler;stopped;" + tail), 0, 0),
            -1, 4092, 15, 2, 3, 1, -1);

        // What an earlier load told of a process does not shine through.
        ConfigTexts x = CHECK.loaded(head + "period 5;deadline 6;stopped;" + tail);
        Check.load(x, head + tail);
        CHECK.row("anew", -1, all(x, 0, 0), -1, 4092, 15, 0, 0, 0, -1);
    }

    private static int[] all(ConfigTexts x, int partition, int process) {
        int[] answers = new int[7];
        for (int k = 0; k < answers.length; k++) {
            answers[k] = x.process(partition, process, k - 1);
        }
        return answers;
    }
}
