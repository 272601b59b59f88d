/** Promise 10: window. */
public final class WindowTest {
    public static void main(String[] args) {
        Check check = new Check();
        ConfigTexts x = check.loaded(Check.FULL);
        int[] partitions = {0, 1, 0};
        int[] ticks = {10, 6, 4};
        for (int k = 0; k < 3; k++) {
            check.same("window(" + k + ", 0)", x.window(k, 0), partitions[k]);
            check.same("window(" + k + ", 1)", x.window(k, 1), ticks[k]);
            check.same("window(" + k + ", 2)", x.window(k, 2), -1);
            check.same("window(" + k + ", -1)", x.window(k, -1), -1);
            check.same("window(" + k + ", least)", x.window(k, Integer.MIN_VALUE), -1);
            check.same("window(" + k + ", most)", x.window(k, Integer.MAX_VALUE), -1);
        }
        int[] none = {-1, 3, 16, Integer.MIN_VALUE, Integer.MAX_VALUE};
        for (int k : none) {
            check.same("window(" + k + ", 0)", x.window(k, 0), -1);
            check.same("window(" + k + ", 1)", x.window(k, 1), -1);
        }
        x = check.loaded("partition a{memory 256;}frame{" + Check.times(15, "a 1;") + "a 200;}");
        check.same("window(15, 0)", x.window(15, 0), 0);
        check.same("window(15, 1)", x.window(15, 1), 200);
        check.same("window(16, 1)", x.window(16, 1), -1);
        check.end();
    }
}
