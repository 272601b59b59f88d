import java.util.function.IntPredicate;
import java.util.function.ToIntFunction;

/** The Terms: fault 5 (a number that may not be, at it); each number up to beyond the greatest, and what is told of it. */
public final class NumberFaultsTest {
    private static final Check CHECK = new Check();
    /** Beyond the numbers that are tried one by one. */
    private static final int[] GREAT = {65536, 65792, 99996, 99999, 100000, 100001, 100004, 131072, 524288, 999996, 999999};

    public static void main(String[] args) {
        memory();
        entry();
        priority();
        periodAndDeadline();
        semaphores();
        buffers();
        channels();
        ticks();
        CHECK.end();
    }

    /** A number between two texts is told where it may be, and is fault 5 where it may not. */
    private static void range(String before, String after, int most, IntPredicate may, ToIntFunction<ConfigTexts> told) {
        for (int n = 0; n <= most; n++) {
            one(before, n, after, may.test(n), told);
        }
        for (int n : GREAT) {
            one(before, n, after, may.test(n), told);
        }
    }

    private static void one(String before, int n, String after, boolean may, ToIntFunction<ConfigTexts> told) {
        if (may) {
            CHECK.same(before + n + after, told.applyAsInt(CHECK.loaded(before + n + after)), n);
        } else {
            CHECK.faultAt(5, before.length(), before + n + after);
            CHECK.faultAt(5, before.length(), before + n);
        }
    }

    private static void memory() {
        CHECK.sentence("N bytes, 256 .. 4096, a multiple of 256");
        range("partition a{memory ", ";}frame{a 1;}", 4700, n -> n >= 256 && n <= 4096 && n % 256 == 0, x -> x.partition(0, 0));
    }

    private static void entry() {
        CHECK.sentence("entry: a multiple of 4 below the memory's size");
        for (int size = 256; size <= 4096; size += 256) {
            int below = size;
            String before = "partition z{memory 4096;}partition a{memory " + size + ";process p{entry ";
            String after = ";priority 0;}}frame{a 1;}";
            if (size == 256 || size == 4096) {
                range(before, after, size + 300, n -> n % 4 == 0 && n < below, x -> x.process(1, 0, 0));
            }
            for (int n = size - 6; n <= size + 6; n++) {
                one(before, n, after, n % 4 == 0 && n < below, x -> x.process(1, 0, 0));
            }
        }
    }

    private static void priority() {
        CHECK.sentence("priority 0 .. 15");
        range("partition a{memory 256;process p{entry 0;priority ", ";}}frame{a 1;}", 300, n -> n <= 15, x -> x.process(0, 0, 1));
    }

    private static void periodAndDeadline() {
        CHECK.sentence("period, deadline 1 .. 100000");
        String head = "partition a{memory 256;process p{entry 0;priority 0;";
        IntPredicate may = n -> n >= 1 && n <= 100000;
        range(head + "period ", ";}}frame{a 1;}", 300, may, x -> x.process(0, 0, 2));
        range(head + "deadline ", ";}}frame{a 1;}", 300, may, x -> x.process(0, 0, 3));
        range(head + "period 9;deadline ", ";}}frame{a 1;}", 20, may, x -> x.process(0, 0, 3));
    }

    private static void semaphores() {
        CHECK.sentence("semaphore NAME N : N ; (its count first, 0 .. 100");
        String head = "partition a{memory 256;semaphore s ";
        range(head, ":100;}frame{a 1;}", 300, n -> n <= 100, x -> x.thing(0, 0, 0, 0));
        CHECK.sentence("the most, 1 .. 100, not below that)");
        for (int count = 0; count <= 100; count++) {
            int least = Math.max(1, count);
            range(head + count + ":", ";}frame{a 1;}", 103, n -> n >= least && n <= 100, x -> x.thing(0, 0, 0, 1));
        }
    }

    private static void buffers() {
        CHECK.sentence("N words, 1 .. 8");
        range("partition a{memory 256;buffer b ", ";}frame{a 1;}", 300, n -> n >= 1 && n <= 8, x -> x.thing(0, 1, 0, 0));
    }

    private static void channels() {
        String tail = "{input>output}frame{a 1;}";
        CHECK.sentence("N a LIMIT, 0 .. 100000");
        range("partition a{memory 256;}channel sampling ", tail, 300, n -> n <= 100000, x -> x.channel(0, 1));
        CHECK.sentence("N a DEPTH, 1 .. 8");
        range("partition a{memory 256;}channel queuing ", tail, 300, n -> n >= 1 && n <= 8, x -> x.channel(0, 1));
    }

    private static void ticks() {
        CHECK.sentence("windows of N ticks, 1 .. 200");
        String head = "partition a{memory 256;}frame{";
        range(head + "a ", ";}", 600, n -> n >= 1 && n <= 200, x -> x.window(0, 1));
        range(head + Check.times(15, "a 200;") + "a ", ";}", 300, n -> n >= 1 && n <= 200, x -> x.size(5) - 3000);
    }
}
