/** Promise 9: channel. */
public final class ChannelTest {
    private static final Check CHECK = new Check();

    public static void main(String[] args) {
        ConfigTexts x = CHECK.loaded(Check.FULL);
        CHECK.row("channel 0", -1, all(x, 0), -1, 1, 2, 0, 1, 1, -1, -1, -1, -1);
        CHECK.row("channel 1", -1, all(x, 1), -1, 0, 5, 0, 2, 1, -1, -1, -1, -1);
        CHECK.row("channel 2", -1, all(x, 2), -1, 1, 1, -1, 1, -1, -1, -1, -1, -1);
        int[] none = {-1, 3, 16, Integer.MIN_VALUE, Integer.MAX_VALUE};
        for (int k : none) {
            CHECK.row("channel " + k, -1, all(x, k), -1, -1, -1, -1, -1, -1, -1, -1, -1, -1);
        }
        CHECK.same("channel least", x.channel(0, Integer.MIN_VALUE), -1);
        CHECK.same("channel most", x.channel(0, Integer.MAX_VALUE), -1);
        fourGoals();
        CHECK.end();
    }

    private static void fourGoals() {
        String text = "partition a{memory 256;port o out sampling;port i in sampling;}"
            + "partition b{memory 256;port i in sampling;}partition c{memory 256;port o in sampling;}"
            + "channel sampling 100000{a.o>output,b.i,a.i,c.o}channel sampling 0{input>output,output}"
            + "channel queuing 8{input>output}frame{a 1;}";
        ConfigTexts x = CHECK.loaded(text);
        CHECK.row("four goals", -1, all(x, 0), -1, 0, 100000, 0, 4, -1, 1, 0, 2, -1);
        CHECK.row("two outputs", -1, all(x, 1), -1, 0, 0, -1, 2, -1, -1, -1, -1, -1);
        CHECK.row("queuing", -1, all(x, 2), -1, 1, 8, -1, 1, -1, -1, -1, -1, -1);

        // Goals of an earlier load do not shine through.
        Check.load(x, "partition a{memory 256;port o out sampling;}channel sampling 1{a.o>output}frame{a 1;}");
        CHECK.row("anew", -1, all(x, 0), -1, 0, 1, 0, 1, -1, -1, -1, -1, -1);
        CHECK.row("gone", -1, all(x, 1), -1, -1, -1, -1, -1, -1, -1, -1, -1, -1);
    }

    private static int[] all(ConfigTexts x, int channel) {
        int[] answers = new int[10];
        for (int k = 0; k < answers.length; k++) {
            answers[k] = x.channel(channel, k - 1);
        }
        return answers;
    }
}
