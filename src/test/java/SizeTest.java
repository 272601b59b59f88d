/** Promise 5: size. */
public final class SizeTest {
    private static final Check CHECK = new Check();

    public static void main(String[] args) {
        CHECK.row("size", -2, sizes(CHECK.loaded(Check.FULL)), -1, -1, 2, 3, 3, 1, 2, 20, -1, -1);
        CHECK.row("size", -2, sizes(new ConfigTexts()), -1, -1, 0, 0, 0, 0, 0, 0, -1, -1);

        String most = "partition a{memory 256;}"
            + Check.times(16, "channel queuing 1{input>output}")
            + "frame{" + Check.times(16, "a 200;") + "}";
        CHECK.row("size", -2, sizes(CHECK.loaded(most)), -1, -1, 1, 16, 16, 16, 16, 3200, -1, -1);

        // Channels to output are counted, not outputs.
        String twice = "partition a{memory 256;port o out sampling;}channel sampling 0{a.o>output,output}frame{a 1;}";
        CHECK.row("size", -2, sizes(CHECK.loaded(twice)), -1, -1, 1, 1, 1, 0, 1, 1, -1, -1);

        ConfigTexts x = CHECK.loaded(Check.FULL);
        CHECK.same("size least", x.size(Integer.MIN_VALUE), -1);
        CHECK.same("size most", x.size(Integer.MAX_VALUE), -1);
        CHECK.end();
    }

    private static int[] sizes(ConfigTexts x) {
        int[] all = new int[10];
        for (int k = 0; k < all.length; k++) {
            all[k] = x.size(k - 2);
        }
        return all;
    }
}
