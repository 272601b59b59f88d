/** Promise 2: put. */
public final class PutTest {
    private static final Check CHECK = new Check();

    public static void main(String[] args) {
        order();
        counts();
        full();
        CHECK.end();
    }

    private static void order() {
        ConfigTexts x = new ConfigTexts();
        // Higher bytes than the n lowest stay away; the highest of those comes first.
        CHECK.same("put pa", x.put(0x7a7a7a7a7a7a7061L, 2), true);
        CHECK.same("put nothing", x.put(0x7a, 0), true);
        CHECK.same("put rtition", Check.put(x, "rtition"), true);
        CHECK.same("put high bit", x.put(-1L, 1), true);
        CHECK.same("load()", Check.load(x, ""), -7);
        CHECK.same("fault(0)", x.fault(0), 2);
        CHECK.same("fault(1)", x.fault(1), 9);

        ConfigTexts whole = new ConfigTexts();
        for (int k = 0; k < Check.FULL.length(); k++) {
            whole.put(0xff00L | Check.FULL.charAt(k), 1);
        }
        CHECK.same("load() of single bytes", Check.load(whole, ""), 2);
    }

    private static void counts() {
        ConfigTexts x = new ConfigTexts();
        int[] wrong = {-1, 9, Integer.MIN_VALUE, Integer.MAX_VALUE, -8, 16};
        for (int n : wrong) {
            CHECK.same("put(.., " + n + ")", x.put(0x2020202020202020L, n), false);
        }
        CHECK.same("load()", Check.load(x, ""), -7);
        CHECK.same("none came", x.fault(1), 0);
        for (int n = 0; n <= 8; n++) {
            CHECK.same("put(.., " + n + ")", x.put(0x2020202020202020L, n), true);
        }
        CHECK.same("load()", Check.load(x, ""), -7);
        CHECK.same("all came", x.fault(1), 36);
    }

    private static void full() {
        ConfigTexts x = new ConfigTexts();
        for (int k = 0; k < 249; k++) {
            CHECK.same("put " + k, x.put(0x2020202020202020L, 8), true);
        }
        CHECK.same("put to 1999", x.put(0x20202020202020L, 7), true);
        CHECK.same("put to 2001", x.put(0x2020, 2), false);
        CHECK.same("put to 2007", x.put(0x2020202020202020L, 8), false);
        CHECK.same("put to 2000", x.put(0x20, 1), true);
        CHECK.same("put one more", x.put(0x20, 1), false);
        CHECK.same("put nothing more", x.put(0x20, 0), true);
        CHECK.same("load()", Check.load(x, ""), -7);
        CHECK.same("fault(1)", x.fault(1), 2000);
        CHECK.same("put after load", x.put(0x20, 1), true);

        String blanks = " ".repeat(2000 - Check.FULL.length());
        CHECK.same("load() of 2000 bytes", Check.load(new ConfigTexts(), blanks + Check.FULL), 2);
    }
}
