/** Promise 9: channel. */
public final class ChannelTest {
    private static final Check CHECK = new Check();
    private static final String HEAD = "partition a{memory 256;port o out sampling;port i in sampling;port q out queuing;}"
        + "partition b{memory 256;port i in sampling;}partition c{memory 256;port o in sampling;port r in queuing;}";

    public static void main(String[] args) {
        ordinary();
        leastAndMost();
        goals();
        everyPartition();
        nothingOfTheLoadBefore();
        numberedByOrder();
        noSuchGoal();
        noSuchChannel();
        CHECK.end();
    }

    private static void row(String what, ConfigTexts x, int channel, int... due) {
        CHECK.row(what, k -> x.channel(channel, k), due);
    }

    private static ConfigTexts with(String channels) {
        return CHECK.loaded(HEAD + channels + "frame{a 1;}");
    }

    private static void ordinary() {
        CHECK.sentence("1 if queuing, else 0, LIMIT or DEPTH, the partition of its SOURCE, how many GOALS, of goal what - 4");
        ConfigTexts x = CHECK.loaded(Check.FULL);
        row("channel 0", x, 0, 1, 2, 0, 1, 1, -1, -1, -1, -1);
        row("channel 1", x, 1, 0, 5, 0, 2, 1, -1, -1, -1, -1);
        row("channel 2", x, 2, 1, 1, -1, 1, -1, -1, -1, -1, -1);
    }

    private static void leastAndMost() {
        CHECK.sentence("LIMIT or DEPTH (1): 0 .. 100000, 1 .. 8");
        row("least LIMIT", with("channel sampling 0{input>output}"), 0, 0, 0, -1, 1, -1, -1, -1, -1, -1);
        row("most LIMIT", with("channel sampling 100000{input>output}"), 0, 0, 100000, -1, 1, -1, -1, -1, -1, -1);
        row("least DEPTH", with("channel queuing 1{input>output}"), 0, 1, 1, -1, 1, -1, -1, -1, -1, -1);
        row("most DEPTH", with("channel queuing 8{input>output}"), 0, 1, 8, -1, 1, -1, -1, -1, -1, -1);
    }

    private static void goals() {
        CHECK.sentence("the partition of its SOURCE (2; NONE for input), of goal what - 4 (4 on; NONE for output, too)");
        row("one", with("channel sampling 0{a.o>c.o}"), 0, 0, 0, 0, 1, 2, -1, -1, -1, -1);
        row("two", with("channel sampling 0{a.o>c.o,b.i}"), 0, 0, 0, 0, 2, 2, 1, -1, -1, -1);
        row("three", with("channel sampling 0{input>c.o,b.i,a.i}"), 0, 0, 0, -1, 3, 2, 1, 0, -1, -1);
        row("four", with("channel sampling 0{a.o>output,b.i,a.i,c.o}"), 0, 0, 0, 0, 4, -1, 1, 0, 2, -1);
        row("output last", with("channel sampling 0{a.o>b.i,a.i,c.o,output}"), 0, 0, 0, 0, 4, 1, 0, 2, -1, -1);
        row("four outputs", with("channel sampling 0{a.o>output,output,output,output}"), 0, 0, 0, 0, 4, -1, -1, -1, -1, -1);
        row("queuing", with("channel queuing 3{a.q>c.r}"), 0, 1, 3, 0, 1, 2, -1, -1, -1, -1);
        row("queuing from input", with("channel queuing 3{input>c.r}"), 0, 1, 3, -1, 1, 2, -1, -1, -1, -1);
        row("queuing to output", with("channel queuing 3{a.q>output}"), 0, 1, 3, 0, 1, -1, -1, -1, -1, -1);
    }

    private static void everyPartition() {
        CHECK.sentence("the partition of its SOURCE (2), the partition of goal what - 4: the first to the eighth");
        String head = Check.times(8, "partition p#{memory 256;port o out queuing;port i in queuing;}");
        for (int source = 0; source < 8; source++) {
            for (int goal = 0; goal < 8; goal++) {
                ConfigTexts x = CHECK.loaded(head + "channel queuing 1{p" + source + ".o>p" + goal + ".i}frame{p0 1;}");
                row("channel", x, 0, 1, 1, source, 1, goal, -1);
                CHECK.same("port of the source", x.thing(source, 2, 0, 2), 0);
                CHECK.same("port of the goal", x.thing(goal, 2, 1, 2), 0);
            }
        }
    }

    private static void nothingOfTheLoadBefore() {
        CHECK.sentence("how many GOALS (3), goal what - 4: whatever the load before told");
        ConfigTexts x = with("channel sampling 7{a.o>b.i,a.i,c.o,output}channel queuing 8{a.q>c.r}");
        Check.load(x, HEAD + "channel sampling 1{input>b.i}frame{a 1;}");
        row("anew", x, 0, 0, 1, -1, 1, 1, -1, -1, -1, -1);
        row("gone", x, 1, -1, -1, -1, -1, -1, -1, -1, -1, -1);
    }

    private static void numberedByOrder() {
        CHECK.sentence("All are numbered by their order, from 0 on: channels");
        String sixteen = Check.times(8, "channel sampling #0{input>output}channel queuing 8{input>output}");
        ConfigTexts x = CHECK.loaded("partition a{memory 256;}" + sixteen + "frame{a 1;}");
        CHECK.row("queuing", k -> x.channel(k, 0), 0, 1, 0, 1, 0, 1, 0, 1, 0, 1, 0, 1, 0, 1, 0, 1, -1);
        CHECK.row("LIMIT or DEPTH", k -> x.channel(k, 1), 0, 8, 10, 8, 20, 8, 30, 8, 40, 8, 50, 8, 60, 8, 70, 8, -1);
        CHECK.noneBeyond("channel ?, 1 of sixteen", 16, k -> x.channel(k, 1));
    }

    private static void noSuchGoal() {
        CHECK.sentence("NONE if there is none such: goals and other whats");
        ConfigTexts four = with("channel sampling 0{a.o>b.i,a.i,c.o,output}channel sampling 3{input>output}");
        CHECK.noneBeyond("channel 0, what", 7, what -> four.channel(0, what));
        CHECK.noneBeyond("channel 1, what", 4, what -> four.channel(1, what));
        ConfigTexts one = with("channel queuing 4{a.q>c.r}");
        CHECK.noneBeyond("channel 0 with a goal, what", 5, what -> one.channel(0, what));
    }

    private static void noSuchChannel() {
        CHECK.sentence("NONE if there is none such: channels");
        ConfigTexts x = CHECK.loaded(Check.FULL);
        for (int what = 0; what <= 8; what++) {
            int of = what;
            CHECK.noneBeyond("channel ?, " + what, 3, k -> x.channel(k, of));
        }
        ConfigTexts none = CHECK.loaded(Check.SMALL);
        CHECK.noneBeyond("channel ?, 0 where none is", 0, k -> none.channel(k, 0));
        Check.load(x, "#");
        CHECK.noneBeyond("channel ?, 0 without a configuration", 0, k -> x.channel(k, 0));
    }
}
