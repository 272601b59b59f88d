/** Promise 1: a new object. */
public final class NewObjectTest {
    private static final Check CHECK = new Check();

    public static void main(String[] args) {
        none();
        noText();
        noConfiguration();
        noFault();
        objectsApart();
        CHECK.end();
    }

    private static void none() {
        CHECK.sentence("The constants: NONE = -1");
        CHECK.same("NONE", ConfigTexts.NONE, -1);
    }

    private static void noText() {
        CHECK.sentence("No text in hand");
        ConfigTexts x = new ConfigTexts();
        CHECK.same("load()", Check.load(x), Check.THROWN);
        CHECK.same("fault(0)", x.fault(0), 1);
        CHECK.same("fault(1)", x.fault(1), 0);
        CHECK.same("a whole text has room", Check.put(new ConfigTexts(), " ".repeat(2000)), true);
        CHECK.same("more has not", Check.put(new ConfigTexts(), " ".repeat(2001)), false);
    }

    private static void noConfiguration() {
        CHECK.sentence("no configuration");
        ConfigTexts x = new ConfigTexts();
        CHECK.row("size", x::size, 0, 0, 0, 0, 0, 0, -1);
        CHECK.noneBeyond("partition", 0, k -> x.partition(k, 0));
        CHECK.noneBeyond("partition 0, what", 0, what -> x.partition(0, what));
        CHECK.noneBeyond("process", 0, what -> x.process(0, 0, what));
        CHECK.noneBeyond("channel", 0, what -> x.channel(0, what));
        CHECK.noneBeyond("window", 0, what -> x.window(0, what));
        for (int what = 0; what <= 12; what++) {
            CHECK.same("partition " + what, x.partition(0, what), -1);
            CHECK.same("process " + what, x.process(0, 0, what), -1);
            CHECK.same("channel " + what, x.channel(0, what), -1);
            CHECK.same("window " + what, x.window(0, what), -1);
        }
        for (int sort = -1; sort <= 3; sort++) {
            int of = sort;
            CHECK.row("thing of " + sort, what -> x.thing(0, of, 0, what), -1, -1, -1, -1);
        }
    }

    private static void noFault() {
        CHECK.sentence("the FAULT, 0 without; its place; NONE without");
        ConfigTexts x = new ConfigTexts();
        CHECK.row("fault", x::fault, 0, -1, -1);
        Check.put(x, "#");
        CHECK.row("fault before the first load()", x::fault, 0, -1, -1);
    }

    private static void objectsApart() {
        CHECK.sentence("No text in hand, no configuration: whatever another object holds");
        ConfigTexts one = CHECK.loaded(Check.FULL);
        Check.put(one, "partition");
        ConfigTexts other = new ConfigTexts();
        CHECK.same("size(0) of the other", other.size(0), 0);
        CHECK.same("load() of the other", Check.load(other), Check.THROWN);
        CHECK.same("place in the other", other.fault(1), 0);
        CHECK.same("load() of a small one", Check.load(other, Check.SMALL), 1);
        CHECK.same("size(0) of the one", one.size(0), 2);
        CHECK.same("fault(0) of the one", one.fault(0), 0);
    }
}
