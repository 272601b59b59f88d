/** The Terms: how many of each there may be, and fault 4 (one more than there may be). */
public final class LimitFaultsTest {
    private static final Check CHECK = new Check();
    private static final String[] SORTS = {"process ", "semaphore ", "event ", "buffer ", "board ", "port "};
    private static final String[] FORMS = {
        "process #{entry 0;priority 0;}", "semaphore # 0:1;", "event #;", "buffer # 8;", "board #;", "port # in sampling;"
    };
    private static final int[] MOST = {8, 4, 4, 4, 4, 8};
    private static final String[] INSTEAD = {"^x", "^n0", "^5", "^999999", "^;", "^}", "^{", "^memory", "^output", "^", " \n^"};

    public static void main(String[] args) {
        things();
        thingsOfEachPartition();
        portsOfAllWays();
        partitions();
        channels();
        goals();
        goalsOfQueuing();
        windows();
        CHECK.end();
    }

    private static String things(int sort, int n) {
        return Check.times(n, FORMS[sort].replace("#", "n#"));
    }

    private static void things() {
        for (int sort = 0; sort < SORTS.length; sort++) {
            CHECK.sentence("At most 8 processes and 8 ports, 4 of each other thing in a partition; 4 one more (at its name)");
            for (int n = 0; n <= MOST[sort]; n++) {
                CHECK.fineInside(things(sort, n));
            }
            String full = things(sort, MOST[sort]);
            CHECK.faultInside(4, full + FORMS[sort].replace("#", "^n" + MOST[sort]) + " } frame { a 1; }");
            CHECK.sentence("4 one more than there may be: or at what stands there instead, also the end");
            for (String instead : INSTEAD) {
                CHECK.faultInside(4, full + SORTS[sort] + instead);
            }
            CHECK.faultInside(1, things(sort, MOST[sort] - 1) + SORTS[sort] + "^;");
            CHECK.faultInside(1, things(sort, MOST[sort] - 1) + SORTS[sort] + "^");
        }
    }

    private static void thingsOfEachPartition() {
        CHECK.sentence("At most 8 processes and 8 ports, 4 of each other thing in a partition: each sort, each partition for itself");
        StringBuilder all = new StringBuilder();
        for (int sort = 0; sort < SORTS.length; sort++) {
            all.append(Check.times(MOST[sort], FORMS[sort].replace("#", "abcdef".charAt(sort) + "#")));
        }
        CHECK.fine("partition a{memory 256;" + all + "}partition b{memory 256;" + all + "}frame{b 1;}");
        for (String sort : SORTS) {
            CHECK.fault(4, "partition a{memory 256;}partition b{memory 256;" + all + sort + "^z");
        }
    }

    private static void portsOfAllWays() {
        CHECK.sentence("At most 8 ports: of all ways and sorts together");
        String eight = Check.times(2, "port a# in sampling;port b# in queuing;port c# out sampling;port d# out queuing;");
        CHECK.fineInside(eight);
        CHECK.faultInside(4, eight + "port ^z in queuing;");
        CHECK.faultInside(4, eight + "port ^z out sampling;");
    }

    private static void partitions() {
        CHECK.sentence("PARTITIONS (1 to 8); 4 one more than there may be (at its name)");
        CHECK.fault(1, "^frame { a 1; }");
        CHECK.fault(1, "^channel sampling 0 { input > output } frame { a 1; }");
        CHECK.fault(1, "^");
        for (int n = 1; n <= 8; n++) {
            CHECK.fine(Check.times(n, "partition n#{memory 256;}") + "frame{n0 1;}");
        }
        String all = Check.times(8, "partition n#{memory 256;} ");
        CHECK.fault(4, all + "partition ^n8 { memory 256; } frame { n0 1; }");
        CHECK.sentence("PARTITIONS (1 to 8): or at what stands there instead, also the end");
        for (String instead : INSTEAD) {
            CHECK.fault(4, all + "partition " + instead);
        }
        CHECK.fault(4, all + "partition ^partition");
        CHECK.fault(1, all + "^5");
        CHECK.fault(1, all + "^");
    }

    private static void channels() {
        CHECK.sentence("CHANNELS (none to 16); 4 one more than there may be (a channel at its word channel)");
        for (int n = 0; n <= 16; n++) {
            CHECK.fine("partition a{memory 256;}" + Check.times(n, "channel sampling #{input>output}") + "frame{a 1;}");
        }
        for (String form : new String[] {"channel sampling #{input>output} ", "channel queuing 1{input>output} "}) {
            String all = "partition a{memory 256;} " + Check.times(16, form);
            CHECK.fine(all + "frame { a 1; }");
            CHECK.fault(4, all + "^channel sampling 0 { input > output } frame { a 1; }");
            CHECK.fault(4, all + "^channel queuing 1 { input > output } frame { a 1; }");
            CHECK.fault(4, all + "^channel");
            CHECK.fault(4, all + "^channel;");
            CHECK.fault(1, all + "^channels");
            CHECK.fault(1, all + "^partition");
            CHECK.fault(1, all + "^");
        }
    }

    private static void goals() {
        CHECK.sentence("one to four GOALS; 4 one more than there may be (a goal at its first word)");
        String head = "partition a{memory 256;port o out sampling;" + Check.times(5, "port i# in sampling;") + "}"
            + "channel sampling 0{a.o>";
        CHECK.fault(1, head + "^}frame{a 1;}");
        CHECK.fine(head + "output}frame{a 1;}");
        CHECK.fine(head + "a.i0}frame{a 1;}");
        CHECK.fine(head + "a.i0,output}frame{a 1;}");
        CHECK.fine(head + "a.i0,a.i1,a.i2}frame{a 1;}");
        CHECK.fine(head + "a.i0,a.i1,a.i2,a.i3}frame{a 1;}");
        CHECK.fine(head + "output,output,output,output}frame{a 1;}");
        CHECK.fault(4, head + "a.i0,a.i1,a.i2,a.i3,^a.i4}frame{a 1;}");
        CHECK.fault(4, head + "a.i0,a.i1,a.i2,a.i3,^output}frame{a 1;}");
        CHECK.fault(4, head + "output,output,output,output,^output}frame{a 1;}");
        CHECK.fault(4, head + "output,output,output,output,^a.i0}frame{a 1;}");
        CHECK.sentence("one to four GOALS: or at what stands there instead, also the end");
        for (String instead : INSTEAD) {
            CHECK.fault(4, head + "output,a.i0,output,output," + instead);
        }
        CHECK.fault(1, head + "output,a.i0,output,output^");
        CHECK.fault(1, head + "output,a.i0,output,^}");
    }

    private static void goalsOfQueuing() {
        CHECK.sentence("channel queuing N { SOURCE > GOAL }");
        String head = "partition a{memory 256;port o out queuing;port i in queuing;port j in queuing;}channel queuing 1{a.o>";
        CHECK.fault(1, head + "^}frame{a 1;}");
        CHECK.fine(head + "output}frame{a 1;}");
        CHECK.fine(head + "a.i}frame{a 1;}");
        CHECK.fault(1, head + "a.i^,a.j}frame{a 1;}");
        CHECK.fault(1, head + "output^,output}frame{a 1;}");
        CHECK.fault(1, head + "output^,");
    }

    private static void windows() {
        CHECK.sentence("one to 16 windows; 4 one more than there may be (a window at its first word)");
        String head = "partition a{memory 256;}partition b{memory 256;}frame{";
        CHECK.fault(1, head + "^}");
        for (int n = 1; n <= 16; n++) {
            CHECK.fine(head + Check.times(n, "a 1;") + "}");
        }
        String all = head + Check.times(8, "a 1;b 200;");
        CHECK.fine(all + "}");
        CHECK.fault(4, all + "^a 1;}");
        CHECK.fault(4, all + "^b 1;}");
        CHECK.fault(4, all + "^a");
        CHECK.sentence("one to 16 windows: or at what stands there instead, also the end");
        for (String instead : INSTEAD) {
            if (!instead.equals("^}")) {
                CHECK.fault(4, all + instead);
            }
        }
        CHECK.fault(1, head + Check.times(15, "a 1;") + "^");
        CHECK.fault(1, head + Check.times(15, "a 1;") + "^5");
    }
}
