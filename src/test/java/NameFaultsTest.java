/** The Terms: faults 3 (a name anew) and 6 (a name that is not there). */
public final class NameFaultsTest {
    private static final Check CHECK = new Check();
    private static final String[] THINGS = {
        "process # { entry 0; priority 0; }", "semaphore # 0 : 1;", "event #;", "buffer # 1;", "board #;", "port # in queuing;"
    };

    public static void main(String[] args) {
        anew();
        notThere();
        CHECK.end();
    }

    private static void anew() {
        for (String first : THINGS) {
            for (String second : THINGS) {
                CHECK.faultInside(3, first.replace("#", "same") + second.replace("#", "^same"));
            }
        }
        CHECK.fault(3, "partition a { memory 256; } partition b { memory 256; } partition ^a {");
        CHECK.fault(3, "partition a { memory 256; } partition ^a");
        // A thing may bear the name of a partition, its own too, and that of a thing elsewhere.
        CHECK.fine("partition a { memory 256; event a; event b; } partition b { memory 256; event a; board b; } frame { b 1; }");
    }

    private static void notThere() {
        String head = "partition a { memory 256; event e; process p { entry 0; priority 0; } port o out sampling; }"
            + " partition b { memory 256; port i in sampling; } ";
        CHECK.fault(6, head + "channel sampling 0 { ^c.o > b.i }");
        CHECK.fault(6, head + "channel sampling 0 { ^c;");
        CHECK.fault(6, head + "channel sampling 0 { ^o");
        CHECK.fault(6, head + "channel sampling 0 { a.^e > b.i }");
        CHECK.fault(6, head + "channel sampling 0 { a.^p > b.i }");
        CHECK.fault(6, head + "channel sampling 0 { a.^i > b.i }");
        CHECK.fault(6, head + "channel sampling 0 { b.^o > b.i }");
        CHECK.fault(6, head + "channel sampling 0 { a.^a > b.i }");
        CHECK.fault(6, head + "channel sampling 0 { a.o > ^c.i }");
        CHECK.fault(6, head + "channel sampling 0 { a.o > b.^e }");
        CHECK.fault(6, head + "channel sampling 0 { a.o > b.i, b.^j }");
        CHECK.fault(6, head + "frame { ^c 1; }");
        CHECK.fault(6, head + "frame { a 1; ^e 0; }");
        CHECK.fault(6, head + "frame { ^c");
    }
}
