/** Promise 10: window. */
public final class WindowTest {
    private static final Check CHECK = new Check();

    public static void main(String[] args) {
        ordinary();
        leastAndMost();
        everyPartition();
        nothingOfTheLoadBefore();
        noSuchWindow();
        anotherWhat();
        CHECK.end();
    }

    private static void ordinary() {
        CHECK.sentence("The partition of window k (what = 0), its ticks (1)");
        ConfigTexts x = CHECK.loaded(Check.FULL);
        CHECK.row("partition of window", k -> x.window(k, 0), 0, 1, 0, -1);
        CHECK.row("ticks of window", k -> x.window(k, 1), 10, 6, 4, -1);
    }

    private static void leastAndMost() {
        CHECK.sentence("one to 16 windows of N ticks, 1 .. 200");
        ConfigTexts one = CHECK.loaded("partition a{memory 256;}frame{a 200;}");
        CHECK.row("partition of window", k -> one.window(k, 0), 0, -1);
        CHECK.row("ticks of window", k -> one.window(k, 1), 200, -1);
        ConfigTexts all = CHECK.loaded("partition a{memory 256;}frame{" + Check.times(8, "a 10#;a 200;") + "}");
        CHECK.row("ticks of window", k -> all.window(k, 1),
            100, 200, 101, 200, 102, 200, 103, 200, 104, 200, 105, 200, 106, 200, 107, 200, -1);
        ConfigTexts full = CHECK.loaded("partition a{memory 256;}frame{" + Check.times(15, "a 1;") + "a 200;}");
        CHECK.same("ticks of the first", full.window(0, 1), 1);
        CHECK.same("partition of the last", full.window(15, 0), 0);
        CHECK.same("ticks of the last", full.window(15, 1), 200);
        CHECK.noneBeyond("window ?, 1 of sixteen", 16, k -> full.window(k, 1));
    }

    private static void everyPartition() {
        CHECK.sentence("The partition of window k (what = 0): the first to the eighth, in any order, any of them without one");
        String head = Check.times(8, "partition p#{memory 256;}");
        ConfigTexts x = CHECK.loaded(head + "frame{p7 1;p0 2;p6 3;p1 4;p5 5;p2 6;p4 7;p3 8;p3 9;p3 10;}");
        CHECK.row("partition of window", k -> x.window(k, 0), 7, 0, 6, 1, 5, 2, 4, 3, 3, 3, -1);
        ConfigTexts one = CHECK.loaded(head + "frame{p7 1;}");
        CHECK.row("partition of window", k -> one.window(k, 0), 7, -1);
    }

    private static void nothingOfTheLoadBefore() {
        CHECK.sentence("NONE if there is none such: windows of the load before");
        ConfigTexts x = CHECK.loaded(Check.FULL);
        Check.load(x, Check.SMALL);
        CHECK.row("ticks of window", k -> x.window(k, 1), 1, -1, -1);
    }

    private static void noSuchWindow() {
        CHECK.sentence("NONE if there is none such");
        ConfigTexts x = CHECK.loaded(Check.FULL);
        CHECK.noneBeyond("window ?, 0", 3, k -> x.window(k, 0));
        CHECK.noneBeyond("window ?, 1", 3, k -> x.window(k, 1));
        Check.load(x, "#");
        CHECK.noneBeyond("window ?, 0 without a configuration", 0, k -> x.window(k, 0));
    }

    private static void anotherWhat() {
        CHECK.sentence("NONE for another what");
        ConfigTexts x = CHECK.loaded(Check.FULL);
        for (int k = 0; k < 3; k++) {
            int window = k;
            CHECK.noneBeyond("window " + k + ", what", 2, what -> x.window(window, what));
        }
    }
}
