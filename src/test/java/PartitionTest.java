/** Promise 6: partition. */
public final class PartitionTest {
    private static final Check CHECK = new Check();
    private static final String[] KINDS = {"illegal", "memory", "late", "raised"};
    private static final String[] ACTIONS = {"skip", "stop", "again", "warm", "cold", "idle", "handle"};

    public static void main(String[] args) {
        ordinary();
        empty();
        full();
        eachCount();
        handler();
        everyAction();
        noAction();
        noSuchPartition();
        anotherWhat();
        CHECK.end();
    }

    private static void row(String what, ConfigTexts x, int partition, int... due) {
        CHECK.row(what, k -> x.partition(partition, k), due);
    }

    private static void ordinary() {
        CHECK.sentence("bytes of memory, processes, semaphores, events, buffers, boards, ports, its handler, the ACTIONS");
        ConfigTexts x = CHECK.loaded(Check.FULL);
        row("partition 0", x, 0, 512, 3, 2, 1, 2, 1, 3, 2, 6, 0, 2, 0, -1);
        row("partition 1", x, 1, 256, 0, 0, 0, 0, 0, 3, -1, 0, 0, 0, 0, -1);
    }

    private static void empty() {
        CHECK.sentence("Of a partition: one without things");
        row("partition", CHECK.loaded(Check.SMALL), 0, 256, 0, 0, 0, 0, 0, 0, -1, 0, 0, 0, 0, -1);
    }

    private static void full() {
        CHECK.sentence("At most 8 processes and 8 ports, 4 of each other thing in a partition");
        String things = Check.times(8, "process c#{entry 0;priority 0;}") + Check.times(8, "port p# in queuing;")
            + Check.times(4, "semaphore s# 0:1;event e#;buffer b# 1;board w#;") + "}";
        ConfigTexts x = CHECK.loaded("partition a{memory 4096;" + things + "partition b{memory 256;" + things + "frame{a 1;}");
        row("partition 0", x, 0, 4096, 8, 4, 4, 4, 4, 8, -1, 0, 0, 0, 0, -1);
        row("partition 1", x, 1, 256, 8, 4, 4, 4, 4, 8, -1, 0, 0, 0, 0, -1);
    }

    private static void eachCount() {
        CHECK.sentence("processes (1), semaphores (2), events (3), buffers (4), boards (5), ports (6)");
        String[] forms = {
            "process n#{entry 0;priority 0;}", "semaphore n# 0:1;", "event n#;", "buffer n# 1;", "board n#;", "port n# in queuing;"
        };
        int[] most = {8, 4, 4, 4, 4, 8};
        for (int sort = 0; sort < forms.length; sort++) {
            for (int n = 0; n <= most[sort]; n++) {
                String text = "partition a{memory 256;" + Check.times(n, forms[sort]) + "}frame{a 1;}";
                int[] due = {256, 0, 0, 0, 0, 0, 0, -1, 0, 0, 0, 0, -1};
                due[1 + sort] = n;
                row("partition with " + n, CHECK.loaded(text), 0, due);
            }
        }
    }

    private static void handler() {
        CHECK.sentence("its handler (7; NONE)");
        for (int at = 0; at < 8; at++) {
            StringBuilder text = new StringBuilder("partition a{memory 256;");
            for (int k = 0; k < 8; k++) {
                text.append("process p" + k + "{entry 0;priority 0;" + (k == at ? "handler;" : "") + "}");
            }
            CHECK.same("handler " + at, CHECK.loaded(text + "}frame{a 1;}").partition(0, 7), at);
        }
        String plain = "partition a{memory 256;process p{entry 0;priority 0;stopped;}}frame{a 1;}";
        CHECK.same("no handler", CHECK.loaded(plain).partition(0, 7), -1);
        String second = "partition a{memory 256;}partition b{memory 256;process p{entry 0;priority 0;handler;}}frame{a 1;}";
        CHECK.same("no handler in partition 0", CHECK.loaded(second).partition(0, 7), -1);
        CHECK.same("handler in partition 1", CHECK.loaded(second).partition(1, 7), 0);
    }

    private static void everyAction() {
        CHECK.sentence("the ACTIONS for illegal, memory, late, raised, in the order in which they are told above (8 .. 11)");
        for (int kind = 0; kind < KINDS.length; kind++) {
            for (int action = 0; action < ACTIONS.length; action++) {
                String text = "partition a{memory 256;errors{" + KINDS[kind] + ":" + ACTIONS[action] + ";}"
                    + "process h{entry 0;priority 0;handler;}}frame{a 1;}";
                int[] due = {256, 1, 0, 0, 0, 0, 0, 0, 0, 0, 0, 0, -1};
                due[8 + kind] = action;
                row(KINDS[kind] + " " + ACTIONS[action], CHECK.loaded(text), 0, due);
            }
        }
        String all = "partition a{memory 256;errors{raised:handle;memory:handle;late:idle;illegal:cold;}"
            + "process h{entry 252;priority 0;handler;stopped;}}frame{a 1;}";
        row("all four", CHECK.loaded(all), 0, 256, 1, 0, 0, 0, 0, 0, 0, 4, 6, 5, 6, -1);
    }

    private static void noAction() {
        CHECK.sentence("skip is 0, also where none is told");
        String one = "partition a{memory 256;errors{memory:stop;}}frame{a 1;}";
        row("one told", CHECK.loaded(one), 0, 256, 0, 0, 0, 0, 0, 0, -1, 0, 1, 0, 0);
        String skip = "partition a{memory 256;errors{memory:skip;}}frame{a 1;}";
        row("skip told", CHECK.loaded(skip), 0, 256, 0, 0, 0, 0, 0, 0, -1, 0, 0, 0, 0);
        // Nothing of the load before, nor of the partition before.
        ConfigTexts x = CHECK.loaded("partition a{memory 256;errors{raised:idle;}}partition b{memory 256;}frame{a 1;}");
        row("the partition behind it", x, 1, 256, 0, 0, 0, 0, 0, 0, -1, 0, 0, 0, 0);
        Check.load(x, Check.SMALL);
        row("the load behind it", x, 0, 256, 0, 0, 0, 0, 0, 0, -1, 0, 0, 0, 0);
    }

    private static void noSuchPartition() {
        CHECK.sentence("NONE if there is none such");
        ConfigTexts two = CHECK.loaded(Check.FULL);
        ConfigTexts eight = CHECK.loaded(Check.times(8, "partition p#{memory 256;}") + "frame{p0 1;}");
        for (int what = 0; what <= 11; what++) {
            int of = what;
            CHECK.noneBeyond("partition ?, " + what + " of two", 2, k -> two.partition(k, of));
        }
        CHECK.row("memory", k -> eight.partition(k, 0), 256, 256, 256, 256, 256, 256, 256, 256, -1);
        CHECK.noneBeyond("partition ?, 0 of eight", 8, k -> eight.partition(k, 0));
        Check.load(two, "#");
        CHECK.noneBeyond("partition ?, 0 without a configuration", 0, k -> two.partition(k, 0));
    }

    private static void anotherWhat() {
        CHECK.sentence("NONE for another what");
        ConfigTexts x = CHECK.loaded(Check.FULL);
        CHECK.noneBeyond("partition 0, what", 12, what -> x.partition(0, what));
        CHECK.noneBeyond("partition 1, what", 12, what -> x.partition(1, what));
        CHECK.noneBeyond("partition 2, what", 12, what -> x.partition(2, what));
    }
}
