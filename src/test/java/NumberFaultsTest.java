/** The Terms: fault 5 (a number that may not be), and the least and most that may. */
public final class NumberFaultsTest {
    private static final Check CHECK = new Check();

    public static void main(String[] args) {
        range("partition a { memory ", "; } frame { a 1; }", new int[] {256, 512, 3840, 4096},
            new int[] {0, 255, 257, 128, 4095, 4097, 4352, 999999});
        thing("process p { entry ", "; priority 0; }", new int[] {0, 4, 252},
            new int[] {1, 2, 3, 254, 255, 256, 260, 4092});
        thing("process p { entry 0; priority ", "; }", new int[] {0, 15}, new int[] {16, 999999});
        thing("process p { entry 0; priority 0; period ", "; }", new int[] {1, 100000}, new int[] {0, 100001, 999999});
        thing("process p { entry 0; priority 0; deadline ", "; }", new int[] {1, 100000}, new int[] {0, 100001});
        thing("semaphore s ", " : 100;", new int[] {0, 1, 100}, new int[] {101, 999999});
        thing("semaphore s 0 : ", ";", new int[] {1, 100}, new int[] {0, 101});
        thing("semaphore s 7 : ", ";", new int[] {7, 8, 100}, new int[] {0, 6, 101});
        thing("buffer b ", ";", new int[] {1, 8}, new int[] {0, 9});
        channel("channel sampling ", new int[] {0, 100000}, new int[] {100001, 999999});
        channel("channel queuing ", new int[] {1, 8}, new int[] {0, 9});
        range("partition a { memory 256; } frame { a ", "; }", new int[] {1, 200}, new int[] {0, 201, 999999});
        CHECK.end();
    }

    private static void thing(String before, String after, int[] fine, int[] wrong) {
        range("partition a { memory 256; " + before, after + " } frame { a 1; }", fine, wrong);
    }

    private static void channel(String before, int[] fine, int[] wrong) {
        range("partition a { memory 256; } " + before, " { input > output } frame { a 1; }", fine, wrong);
    }

    private static void range(String before, String after, int[] fine, int[] wrong) {
        for (int n : fine) {
            CHECK.fine(before + n + after);
        }
        for (int n : wrong) {
            CHECK.fault(5, before + "^" + n + after);
            CHECK.fault(5, before + "^" + n);
        }
    }
}
