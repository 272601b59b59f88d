/** Promise 8: thing. */
public final class ThingTest {
    private static final Check CHECK = new Check();

    public static void main(String[] args) {
        ConfigTexts x = CHECK.loaded(Check.FULL);
        CHECK.row("semaphore 0", -1, all(x, 0, 0, 0), -1, 2, 9, -1, -1);
        CHECK.row("semaphore 1", -1, all(x, 0, 0, 1), -1, 0, 1, -1, -1);
        CHECK.row("semaphore 2", -1, all(x, 0, 0, 2), -1, -1, -1, -1, -1);
        CHECK.row("buffer 0", -1, all(x, 0, 1, 0), -1, 1, -1, -1, -1);
        CHECK.row("buffer 1", -1, all(x, 0, 1, 1), -1, 8, -1, -1, -1);
        CHECK.row("buffer 2", -1, all(x, 0, 1, 2), -1, -1, -1, -1, -1);
        CHECK.row("port to", -1, all(x, 0, 2, 0), -1, 1, 1, 0, -1);
        CHECK.row("port say", -1, all(x, 0, 2, 1), -1, 1, 0, 1, -1);
        CHECK.row("port more", -1, all(x, 0, 2, 2), -1, 1, 0, -1, -1);
        CHECK.row("port from", -1, all(x, 1, 2, 0), -1, 0, 1, 0, -1);
        CHECK.row("port hear", -1, all(x, 1, 2, 1), -1, 0, 0, 1, -1);
        CHECK.row("port free", -1, all(x, 1, 2, 2), -1, 0, 0, -1, -1);
        int[] none = {-1, 3, 8, Integer.MIN_VALUE, Integer.MAX_VALUE};
        for (int k : none) {
            CHECK.row("partition " + k, -1, all(x, k, 2, 0), -1, -1, -1, -1, -1);
            CHECK.row("sort " + k, -1, all(x, 0, k, 0), -1, -1, -1, -1, -1);
            CHECK.row("k " + k, -1, all(x, 0, 2, k), -1, -1, -1, -1, -1);
        }
        CHECK.same("thing least", x.thing(0, 2, 0, Integer.MIN_VALUE), -1);
        CHECK.same("thing most", x.thing(0, 2, 0, Integer.MAX_VALUE), -1);

        String edges = "partition a{memory 256;semaphore s 100:100;semaphore t 1:1;}frame{a 1;}";
        CHECK.row("semaphore s", -1, all(CHECK.loaded(edges), 0, 0, 0), -1, 100, 100, -1, -1);
        CHECK.row("semaphore t", -1, all(CHECK.loaded(edges), 0, 0, 1), -1, 1, 1, -1, -1);
        CHECK.end();
    }

    private static int[] all(ConfigTexts x, int partition, int sort, int k) {
        int[] answers = new int[5];
        for (int n = 0; n < answers.length; n++) {
            answers[n] = x.thing(partition, sort, k, n - 1);
        }
        return answers;
    }
}
