/** The Terms: fault 7 (a rule, at the word that is told). */
public final class RuleFaultsTest {
    private static final Check CHECK = new Check();
    private static final String HANDLER = "process # { entry 0; priority 0; handler; } ";
    private static final String PORTS = "partition a { memory 256; port so out sampling; port si in sampling; port qo out queuing;"
        + " port qi in queuing; port s2 out sampling; port t in sampling; } ";
    private static final String[] KINDS = {"illegal", "memory", "late", "raised"};

    public static void main(String[] args) {
        secondHandler();
        errorsTwice();
        kindTwice();
        handleWithoutHandler();
        firstHandle();
        handleWithHandler();
        wrongWay();
        otherSort();
        inAChannelAlready();
        inputAndOutput();
        nothingOfTheLoadBefore();
        CHECK.end();
    }

    private static void secondHandler() {
        CHECK.sentence("a second handler in a partition (at handler)");
        String p = HANDLER.replace("#", "p");
        CHECK.faultInside(7, p + "process q { entry 0; priority 0; ^handler");
        CHECK.faultInside(7, p + "process q { entry 0; priority 0; ^handler; stopped; } }");
        CHECK.faultInside(7, p + "process q { entry 0; priority 0; period 1; deadline 1; ^handler; }");
        CHECK.faultInside(7, p + Check.times(6, "process n# { entry 0; priority 0; } ")
            + "process q { entry 0; priority 0; ^handler; } }");
        CHECK.fine("partition a { memory 256; " + p + "} partition b { memory 256; " + p + "} frame { a 1; }");
        CHECK.fault(7, "partition a { memory 256; " + p + "} partition b { memory 256; " + p
            + "process q { entry 0; priority 0; ^handler; } }");
    }

    private static void errorsTwice() {
        CHECK.sentence("errors twice (at errors)");
        CHECK.faultInside(7, "errors { late : skip; } ^errors");
        CHECK.faultInside(7, "errors { late : skip; } ^errors { raised : skip; } }");
        CHECK.faultInside(7, "errors { late : skip; } event e; ^errors { raised : skip; } }");
        CHECK.faultInside(7, "errors { illegal : skip; memory : skip; late : skip; raised : skip; } ^errors }");
        CHECK.fineInside("errors { late : skip; }");
        CHECK.fine("partition a { memory 256; errors { late : skip; } } partition b { memory 256;"
            + " errors { raised : stop; illegal : cold; memory : warm; late : idle; } } frame { a 1; }");
    }

    private static void kindTwice() {
        CHECK.sentence("a KIND twice (at it)");
        for (String first : KINDS) {
            CHECK.faultInside(7, "errors { " + first + " : skip; ^" + first);
            for (String second : KINDS) {
                if (second.equals(first)) {
                    CHECK.faultInside(7, "errors { " + first + " : skip; ^" + second + " : skip; }");
                } else {
                    CHECK.fineInside("errors { " + first + " : skip; " + second + " : skip; }");
                    CHECK.faultInside(7, "errors { " + first + " : stop; " + second + " : skip; ^" + first + " : stop; }");
                    CHECK.faultInside(7, "errors { " + first + " : stop; " + second + " : skip; ^" + second + " : stop; }");
                }
            }
            CHECK.faultInside(7, "errors { memory : skip; late : skip; raised : idle; illegal : cold; ^" + first);
        }
    }

    private static void handleWithoutHandler() {
        CHECK.sentence("handle in a partition that has no handler");
        for (String kind : KINDS) {
            CHECK.faultInside(7, "errors { " + kind + " : ^handle; } }");
        }
        CHECK.faultInside(7, "errors { late : ^handle; } process p { entry 0; priority 0; } }");
        CHECK.faultInside(7, "process p { entry 0; priority 0; stopped; } errors { late : ^handle; } }");
        // A thing named handle, and a handler of another partition, are none.
        CHECK.faultInside(7, "event handle; errors { late : ^handle; } }");
        CHECK.fault(7, "partition a { memory 256; " + HANDLER.replace("#", "p")
            + "} partition b { memory 256; errors { late : ^handle; } }");
        CHECK.fault(7, "partition a { memory 256; errors { late : ^handle; } } partition b { memory 256; "
            + HANDLER.replace("#", "p") + "} frame { a 1; }");
    }

    private static void firstHandle() {
        CHECK.sentence("(at the first handle, when the partition's } is at hand)");
        CHECK.faultInside(7, "errors { memory : skip; late : ^handle; raised : handle; } event e; }");
        CHECK.faultInside(7, "errors { raised : ^handle; illegal : handle; memory : handle; late : handle; } }");
        CHECK.faultInside(7, "event e; errors { late : stop; raised : ^handle; memory : idle; } port p in queuing; }");
        CHECK.fault(7, "partition a { memory 256; errors { late : handle; } " + HANDLER.replace("#", "p")
            + "} partition b { memory 256; errors { late : stop; raised : ^handle; } }");
    }

    private static void handleWithHandler() {
        CHECK.sentence("handle in a partition that has no handler: fine with one, ahead or behind");
        CHECK.fineInside("errors { late : handle; } " + HANDLER.replace("#", "p"));
        CHECK.fineInside(HANDLER.replace("#", "p") + "errors { late : handle; raised : handle; }");
        CHECK.fine("partition a { memory 256; errors { late : handle; } " + HANDLER.replace("#", "p")
            + "} partition b { memory 256; } frame { b 1; }");
    }

    private static void wrongWay() {
        CHECK.sentence("a port that lies the wrong way (at its name)");
        CHECK.fault(7, PORTS + "channel sampling 0 { a.^si > output }");
        CHECK.fault(7, PORTS + "channel queuing 1 { a.^qi > output }");
        CHECK.fault(7, PORTS + "channel sampling 0 { input > a.^so }");
        CHECK.fault(7, PORTS + "channel queuing 1 { input > a.^qo }");
        CHECK.fault(7, PORTS + "channel sampling 0 { a.so > a.^s2 }");
        CHECK.fault(7, PORTS + "channel sampling 0 { a.so > a.si, output, a.t, a.^s2 }");
    }

    private static void otherSort() {
        CHECK.sentence("a port that is of the other sort (sampling, queuing) (at its name)");
        CHECK.fault(7, PORTS + "channel sampling 0 { a.^qo > output }");
        CHECK.fault(7, PORTS + "channel queuing 1 { a.^so > output }");
        CHECK.fault(7, PORTS + "channel sampling 0 { input > a.^qi }");
        CHECK.fault(7, PORTS + "channel queuing 1 { input > a.^si }");
        CHECK.fault(7, PORTS + "channel sampling 0 { a.so > output, a.^qi }");
        // The wrong way and of the other sort.
        CHECK.fault(7, PORTS + "channel sampling 0 { a.^qi");
        CHECK.fault(7, PORTS + "channel queuing 1 { input > a.^so");
    }

    private static void inAChannelAlready() {
        CHECK.sentence("a port that is in a channel already (at its name)");
        CHECK.fault(7, PORTS + "channel sampling 0 { input > a.si, a.^si }");
        CHECK.fault(7, PORTS + "channel sampling 0 { input > a.si, output, output, a.^si }");
        CHECK.fault(7, PORTS + "channel sampling 0 { a.so > a.^so }");
        CHECK.fault(7, PORTS + "channel sampling 0 { a.so > output } channel sampling 0 { a.^so > output }");
        CHECK.fault(7, PORTS + "channel sampling 0 { input > a.si } channel sampling 0 { a.so > a.t, a.^si }");
        CHECK.fault(7, PORTS + "channel queuing 1 { a.qo > a.qi } channel queuing 1 { a.^qo");
        CHECK.fault(7, PORTS + "channel queuing 1 { a.qo > a.qi } channel queuing 1 { input > a.^qi");
        CHECK.fault(7, PORTS + "channel queuing 1 { a.qo > output } " + Check.times(14, "channel sampling 0 { input > output } ")
            + "channel queuing 1 { a.^qo");
        CHECK.fine(PORTS + "channel sampling 0 { a.so > a.si, output, a.t } channel queuing 1 { a.qo > a.qi }"
            + " channel sampling 1 { a.s2 > output } frame { a 1; }");
        // A port of the same name elsewhere is another one.
        CHECK.fine("partition a { memory 256; port i in queuing; } partition b { memory 256; port i in queuing; }"
            + " channel queuing 1 { input > a.i } channel queuing 1 { input > b.i } frame { a 1; }");
    }

    private static void inputAndOutput() {
        CHECK.sentence("input or output in queuing and sampling alike are fine");
        CHECK.fine(PORTS + "channel sampling 0 { input > output } channel queuing 1 { input > output }"
            + " channel sampling 0 { input > output, output, output, output } channel queuing 8 { input > output }"
            + " channel sampling 1 { a.so > output } channel queuing 1 { a.qo > output }"
            + " channel sampling 1 { input > a.si } channel queuing 1 { input > a.qi } frame { a 1; }");
    }

    private static void nothingOfTheLoadBefore() {
        CHECK.sentence("a rule: in this text, whatever stood in the one before");
        ConfigTexts x = new ConfigTexts();
        String handler = "partition a { memory 256; " + HANDLER.replace("#", "p") + "errors { late : handle; } } frame { a 1; }";
        CHECK.same("load()", Check.load(x, handler), 1);
        CHECK.same("a handler and errors again", Check.load(x, handler), 1);
        Check.load(x, "partition a { memory 256; errors { late : handle; } }");
        CHECK.row("the handler is gone", x::fault, 7, 42);
        // A handle that stood in a text with a fault is none in the next.
        Check.load(x, "partition a { memory 256; errors { late : handle; } #");
        CHECK.same("load() without handle", Check.load(x, Check.SMALL), 1);
        String channel = PORTS + "channel queuing 1 { a.qo > a.qi } frame { a 1; }";
        CHECK.same("load() of a channel", Check.load(x, channel), 1);
        CHECK.same("load() of the ports again", Check.load(x, channel), 1);
    }
}
