/** Promise 5: size. */
public final class SizeTest {
    private static final Check CHECK = new Check();

    public static void main(String[] args) {
        ordinary();
        least();
        most();
        partitions();
        fromInputAndToOutput();
        anotherWhat();
        withoutConfiguration();
        CHECK.end();
    }

    private static void ordinary() {
        CHECK.sentence("Partitions (what = 0), channels (1), windows (2), from input (3), to output (4), ticks (5)");
        CHECK.row("size", CHECK.loaded(Check.FULL)::size, 2, 3, 3, 1, 2, 20, -1);
    }

    private static void least() {
        CHECK.sentence("PARTITIONS (1 to 8), CHANNELS (none to 16), one to 16 windows of 1 .. 200 ticks: the least");
        CHECK.row("size", CHECK.loaded(Check.SMALL)::size, 1, 0, 1, 0, 0, 1, -1);
    }

    private static void most() {
        CHECK.sentence("PARTITIONS (1 to 8), CHANNELS (none to 16), one to 16 windows of 1 .. 200 ticks: the most");
        String most = Check.times(8, "partition p#{memory 256;}") + Check.times(16, "channel queuing 1{input>output}")
            + "frame{" + Check.times(8, "p# 200;") + Check.times(8, "p# 200;") + "}";
        CHECK.row("size", CHECK.loaded(most)::size, 8, 16, 16, 16, 16, 3200, -1);
    }

    private static void partitions() {
        CHECK.sentence("channels (1), windows (2), ticks of the FRAME (5): each number between");
        for (int n = 1; n <= 16; n++) {
            String text = "partition a{memory 256;}" + Check.times(n, "channel sampling #{input>output}")
                + "frame{" + Check.times(n, "a 1#;") + "}";
            int ticks = 0;
            for (int k = 0; k < n; k++) {
                ticks += k < 10 ? 10 + k : 100 + k;
            }
            CHECK.row("size", CHECK.loaded(text)::size, 1, n, n, n, n, ticks);
        }
    }

    private static void fromInputAndToOutput() {
        CHECK.sentence("channels from input (3), to output (4)");
        String head = "partition a{memory 256;port o out sampling;port i in sampling;port q out queuing;port r in queuing;}";
        CHECK.row("neither", CHECK.loaded(head + "channel sampling 0{a.o>a.i}frame{a 1;}")::size, 1, 1, 1, 0, 0, 1);
        CHECK.row("from", CHECK.loaded(head + "channel sampling 0{input>a.i}frame{a 1;}")::size, 1, 1, 1, 1, 0, 1);
        CHECK.row("to", CHECK.loaded(head + "channel queuing 1{a.q>output}frame{a 1;}")::size, 1, 1, 1, 0, 1, 1);
        CHECK.row("both", CHECK.loaded(head + "channel queuing 1{input>output}frame{a 1;}")::size, 1, 1, 1, 1, 1, 1);
        CHECK.row("last goal", CHECK.loaded(head + "channel sampling 0{a.o>a.i,output}frame{a 1;}")::size, 1, 1, 1, 0, 1, 1);
        CHECK.row("first goal", CHECK.loaded(head + "channel sampling 0{a.o>output,a.i}frame{a 1;}")::size, 1, 1, 1, 0, 1, 1);
        // Channels are counted, not goals.
        CHECK.row("twice", CHECK.loaded(head + "channel sampling 0{a.o>output,output}frame{a 1;}")::size, 1, 1, 1, 0, 1, 1);
        String two = "channel sampling 0{a.o>output,a.i,output}channel queuing 1{input>a.r}channel queuing 2{a.q>output}";
        CHECK.row("three channels", CHECK.loaded(head + two + "frame{a 1;}")::size, 1, 3, 1, 1, 2, 1);
    }

    private static void anotherWhat() {
        CHECK.sentence("NONE for another what");
        CHECK.noneBeyond("size", 6, CHECK.loaded(Check.FULL)::size);
        CHECK.noneBeyond("size without a configuration", 6, new ConfigTexts()::size);
    }

    private static void withoutConfiguration() {
        CHECK.sentence("0 without a configuration");
        CHECK.row("size of a new object", new ConfigTexts()::size, 0, 0, 0, 0, 0, 0);
        ConfigTexts x = CHECK.loaded(Check.FULL);
        Check.load(x, Check.FULL + "}");
        CHECK.row("size behind a fault", x::size, 0, 0, 0, 0, 0, 0);
    }
}
