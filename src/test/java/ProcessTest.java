/** Promise 7: process. */
public final class ProcessTest {
    private static final Check CHECK = new Check();

    public static void main(String[] args) {
        ordinary();
        everyChoice();
        leastAndMost();
        nothingOfTheLoadBefore();
        numberedByOrder();
        noSuchProcess();
        anotherWhat();
        CHECK.end();
    }

    private static void row(String what, ConfigTexts x, int partition, int process, int... due) {
        CHECK.row(what, k -> x.process(partition, process, k), due);
    }

    private static ConfigTexts with(String settings) {
        return CHECK.loaded("partition a{memory 4096;process p{" + settings + "}}frame{a 1;}");
    }

    private static void ordinary() {
        CHECK.sentence("entry (what = 0), priority (1), period (2), deadline (3), 1 if it is stopped, else 0 (4)");
        ConfigTexts x = CHECK.loaded(Check.FULL);
        row("process 0", x, 0, 0, 0, 2, 0, 0, 0, -1);
        row("process 1", x, 0, 1, 128, 5, 7, 90, 1, -1);
        row("process 2", x, 0, 2, 508, 15, 0, 0, 0, -1);
    }

    private static void everyChoice() {
        CHECK.sentence("period (2), deadline (3; 0 both without), 1 if it is stopped, else 0 (4)");
        for (int choice = 0; choice < 16; choice++) {
            boolean period = (choice & 1) != 0;
            boolean deadline = (choice & 2) != 0;
            boolean handler = (choice & 4) != 0;
            boolean stopped = (choice & 8) != 0;
            ConfigTexts x = with("entry 8;priority 3;" + (period ? "period 11;" : "") + (deadline ? "deadline 12;" : "")
                + (handler ? "handler;" : "") + (stopped ? "stopped;" : ""));
            row("choice " + choice, x, 0, 0, 8, 3, period ? 11 : 0, deadline ? 12 : 0, stopped ? 1 : 0, -1);
            CHECK.same("handler of choice " + choice, x.partition(0, 7), handler ? 0 : -1);
        }
    }

    private static void leastAndMost() {
        CHECK.sentence("entry: a multiple of 4 below the memory's size; priority 0 .. 15; period, deadline 1 .. 100000");
        row("least", with("entry 0;priority 0;period 1;deadline 1;"), 0, 0, 0, 0, 1, 1, 0, -1);
        row("most", with("entry 4092;priority 15;period 100000;deadline 100000;"), 0, 0, 4092, 15, 100000, 100000, 0, -1);
        row("noughts ahead", with("entry 000004;priority 000001;period 000002;deadline 000003;"), 0, 0, 4, 1, 2, 3, 0, -1);
    }

    private static void nothingOfTheLoadBefore() {
        CHECK.sentence("0 both without: whatever the load before told");
        ConfigTexts x = with("entry 4;priority 3;period 5;deadline 6;stopped;");
        Check.load(x, "partition a{memory 256;process p{entry 0;priority 0;}}frame{a 1;}");
        row("anew", x, 0, 0, 0, 0, 0, 0, 0, -1);
    }

    private static void numberedByOrder() {
        CHECK.sentence("All are numbered by their order, from 0 on: things of one sort in a partition");
        String eight = "partition a{memory 256;event e;" + Check.times(8, "process p#{entry 4;priority #;}port q# in queuing;")
            + "}partition b{memory 256;process z{entry 8;priority 9;}}frame{a 1;}";
        ConfigTexts x = CHECK.loaded(eight);
        CHECK.row("priority", k -> x.process(0, k, 1), 0, 1, 2, 3, 4, 5, 6, 7, -1);
        CHECK.row("priority in partition 1", k -> x.process(1, k, 1), 9, -1);
        CHECK.noneBeyond("process ?, 1 of eight", 8, k -> x.process(0, k, 1));
    }

    private static void noSuchProcess() {
        CHECK.sentence("NONE if there is none such");
        ConfigTexts x = CHECK.loaded(Check.FULL);
        for (int what = 0; what <= 4; what++) {
            int of = what;
            CHECK.noneBeyond("process 0, ?, " + what, 3, k -> x.process(0, k, of));
            CHECK.noneBeyond("process 1, ?, " + what + ": it has none", 0, k -> x.process(1, k, of));
            CHECK.noneBeyond("process ?, 0, " + what, 2, k -> x.process(k, 0, of));
        }
        Check.load(x, "#");
        CHECK.noneBeyond("process 0, ?, 0 without a configuration", 0, k -> x.process(0, k, 0));
    }

    private static void anotherWhat() {
        CHECK.sentence("NONE for another what");
        ConfigTexts x = CHECK.loaded(Check.FULL);
        for (int k = 0; k < 3; k++) {
            int process = k;
            CHECK.noneBeyond("process 0, " + k + ", what", 5, what -> x.process(0, process, what));
        }
    }
}
