/** Promise 3: load, and that the text in hand and the configuration are as told behind it. */
public final class LoadTest {
    private static final String SMALL = "partition p{memory 256;}frame{p 1;}";

    public static void main(String[] args) {
        Check check = new Check();
        ConfigTexts x = new ConfigTexts();
        check.same("load()", Check.load(x, Check.FULL), 2);
        check.same("load() of no text", Check.load(x, ""), -7);
        check.same("place: the text was empty", x.fault(1), 0);
        check.same("size(0) behind a fault", x.size(0), 0);

        check.same("load() again", Check.load(x, Check.FULL), 2);
        check.same("fault(0)", x.fault(0), 0);
        check.same("fault(1)", x.fault(1), -1);
        check.same("load() of a small one", Check.load(x, SMALL), 1);
        check.same("channels are gone", x.size(1), 0);
        check.same("from input", x.size(3), 0);
        check.same("to output", x.size(4), 0);
        check.same("windows", x.size(2), 1);
        check.same("ticks", x.size(5), 1);
        check.same("partition 1 is gone", x.partition(1, 0), -1);
        for (int what = 1; what <= 6; what++) {
            check.same("things are gone", x.partition(0, what), 0);
        }
        check.same("handler is gone", x.partition(0, 7), -1);
        check.same("action is gone", x.partition(0, 8), 0);

        // A text that is put while a configuration stands does not touch it.
        Check.put(x, "rubbish");
        check.same("size(0)", x.size(0), 1);
        check.same("load() of a fault", Check.load(x, ""), -7);
        check.same("the text was emptied by the fault", Check.load(x, SMALL), 1);

        faultAtTheLastWord(check);
        eightPartitions(check);
        check.end();
    }

    private static void faultAtTheLastWord(Check check) {
        ConfigTexts x = check.loaded(Check.FULL);
        check.same("load()", Check.load(x, Check.FULL + ";"), -7);
        for (int what = 0; what <= 5; what++) {
            check.same("size " + what, x.size(what), 0);
        }
        check.same("size(6)", x.size(6), -1);
        check.same("partition", x.partition(0, 0), -1);
        check.same("process", x.process(0, 0, 0), -1);
        check.same("thing", x.thing(0, 2, 0, 0), -1);
        check.same("channel", x.channel(0, 0), -1);
        check.same("window", x.window(0, 0), -1);
        check.same("fault(0)", x.fault(0), 1);
        check.same("fault(1)", x.fault(1), Check.FULL.length());
    }

    private static void eightPartitions(Check check) {
        String text = Check.times(8, "partition p#{memory 256;}") + "frame{p7 1;}";
        check.same("load() of eight", Check.load(new ConfigTexts(), text), 8);
    }
}
