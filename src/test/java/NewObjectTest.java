/** Promise 1: no text in hand, no configuration. */
public final class NewObjectTest {
    public static void main(String[] args) {
        Check check = new Check();
        ConfigTexts x = new ConfigTexts();
        check.same("NONE", ConfigTexts.NONE, -1);
        check.same("fault(0)", x.fault(0), 0);
        check.same("fault(1)", x.fault(1), -1);
        for (int what = 0; what <= 5; what++) {
            check.same("size " + what, x.size(what), 0);
        }
        for (int what = -1; what <= 12; what++) {
            check.same("partition " + what, x.partition(0, what), -1);
            check.same("process " + what, x.process(0, 0, what), -1);
            check.same("channel " + what, x.channel(0, what), -1);
            check.same("window " + what, x.window(0, what), -1);
            for (int sort = 0; sort < 3; sort++) {
                check.same("thing " + what, x.thing(0, sort, 0, what), -1);
            }
        }
        check.same("load()", Check.load(x, ""), -7);
        check.same("fault(0) of no text", x.fault(0), 1);
        check.same("fault(1) of no text", x.fault(1), 0);

        // Two objects hold nothing in common.
        ConfigTexts one = check.loaded(Check.FULL);
        ConfigTexts other = new ConfigTexts();
        check.same("size(0) of the other", other.size(0), 0);
        check.same("size(0) of the one", one.size(0), 2);
        check.end();
    }
}
