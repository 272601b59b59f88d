/** Promise 4: fault tells of the latest load(). */
public final class FaultTest {
    public static void main(String[] args) {
        Check check = new Check();
        ConfigTexts x = new ConfigTexts();
        check.same("load()", Check.load(x, "partition a { memory 300; }"), -7);
        check.same("fault(0)", x.fault(0), 5);
        check.same("fault(1)", x.fault(1), 21);
        int[] others = {-1, 2, 3, Integer.MIN_VALUE, Integer.MAX_VALUE};
        for (int what : others) {
            check.same("fault(" + what + ")", x.fault(what), -1);
        }
        Check.put(x, Check.FULL);
        check.same("put leaves the fault", x.fault(0), 5);
        check.same("put leaves the place", x.fault(1), 21);
        check.same("load()", Check.load(x, ""), 2);
        check.same("fault(0) without", x.fault(0), 0);
        check.same("fault(1) without", x.fault(1), -1);
        check.same("fault(2) without", x.fault(2), -1);
        check.end();
    }
}
