/** Promise 6: partition. */
public final class PartitionTest {
    private static final Check CHECK = new Check();

    public static void main(String[] args) {
        ConfigTexts x = CHECK.loaded(Check.FULL);
        CHECK.row("partition 0", 0, all(x, 0), 512, 3, 2, 1, 2, 1, 3, 2, 6, 0, 2, 0);
        CHECK.row("partition 1", 0, all(x, 1), 256, 0, 0, 0, 0, 0, 3, -1, 0, 0, 0, 0);
        int[] none = {-1, 2, 8, Integer.MIN_VALUE, Integer.MAX_VALUE};
        for (int partition : none) {
            CHECK.row("partition " + partition, 0, all(x, partition), -1, -1, -1, -1, -1, -1, -1, -1, -1, -1, -1, -1);
        }
        int[] others = {-1, 12, 13, Integer.MIN_VALUE, Integer.MAX_VALUE};
        for (int what : others) {
            CHECK.same("partition(0, " + what + ")", x.partition(0, what), -1);
        }
        actions();
        most();
        CHECK.end();
    }

    private static void actions() {
        String[] action = {"skip", "stop", "again", "warm", "cold", "idle"};
        for (int k = 0; k < action.length; k++) {
            String text = "partition a{memory 4096;errors{raised:" + action[k] + ";memory:stop;}}frame{a 1;}";
            ConfigTexts x = CHECK.loaded(text);
            CHECK.row("partition " + action[k], 0, all(x, 0), 4096, 0, 0, 0, 0, 0, 0, -1, 0, 1, 0, k);
        }
        // A handler that follows is a handler, and it may be process 0.
        String later = "partition a{memory 256;errors{raised:handle;memory:handle;late:idle;illegal:cold;}"
            + "process h{entry 252;priority 0;handler;stopped;}}frame{a 1;}";
        CHECK.row("partition", 0, all(CHECK.loaded(later), 0), 256, 1, 0, 0, 0, 0, 0, 0, 4, 6, 5, 6);
    }

    private static void most() {
        String text = "partition a{memory 256;"
            + Check.times(8, "process c#{entry 0;priority 0;}") + Check.times(8, "port p# in queuing;")
            + Check.times(4, "semaphore s# 0:1;event e#;buffer b# 1;board w#;") + "}frame{a 1;}";
        CHECK.row("partition", 0, all(CHECK.loaded(text), 0), 256, 8, 4, 4, 4, 4, 8, -1, 0, 0, 0, 0);
    }

    private static int[] all(ConfigTexts x, int partition) {
        int[] answers = new int[12];
        for (int what = 0; what < answers.length; what++) {
            answers[what] = x.partition(partition, what);
        }
        return answers;
    }
}
