/** The Terms: fault 7 (a rule). */
public final class RuleFaultsTest {
    private static final Check CHECK = new Check();

    public static void main(String[] args) {
        handlers();
        errors();
        handle();
        ports();
        CHECK.end();
    }

    private static void handlers() {
        String handler = "process # { entry 0; priority 0; handler; } ";
        CHECK.faultInside(7, handler.replace("#", "p") + "process q { entry 0; priority 0; ^handler");
        CHECK.faultInside(7, handler.replace("#", "p") + "process q { entry 0; priority 0; period 1; ^handler; }");
        CHECK.fine("partition a { memory 256; " + handler.replace("#", "p") + "} partition b { memory 256; "
            + handler.replace("#", "p") + "} frame { a 1; }");
    }

    private static void errors() {
        CHECK.faultInside(7, "errors { late : skip; } ^errors");
        CHECK.faultInside(7, "errors { late : skip; } event e; ^errors { raised : skip; } }");
        CHECK.faultInside(7, "errors { late : skip; ^late : stop; }");
        CHECK.faultInside(7, "errors { memory : skip; late : skip; raised : idle; illegal : cold; ^memory");
        CHECK.fine("partition a { memory 256; errors { late : skip; } } partition b { memory 256;"
            + " errors { raised : stop; illegal : cold; memory : warm; late : idle; } } frame { a 1; }");
    }

    private static void handle() {
        CHECK.faultInside(7, "errors { late : ^handle; } }");
        CHECK.faultInside(7, "errors { memory : skip; late : ^handle; raised : handle; } event e; }");
        CHECK.faultInside(7, "errors { late : ^handle; } process p { entry 0; priority 0; } }");
        // It is met when the partition's } is at hand, and not before.
        CHECK.faultInside(1, "errors { late : handle; } ^");
        CHECK.faultInside(1, "errors { late : handle; } ^;");
        CHECK.faultInside(5, "errors { late : handle; } buffer b ^9; }");
        CHECK.faultInside(2, "errors { late : handle; } ^#}");
        // A handler of another partition is none here.
        CHECK.fault(7, "partition a { memory 256; process p { entry 0; priority 0; handler; } }"
            + " partition b { memory 256; errors { late : ^handle; } }");
        CHECK.fine("partition a { memory 256; errors { late : handle; }"
            + " process p { entry 0; priority 0; handler; } } partition b { memory 256; } frame { b 1; }");
    }

    private static void ports() {
        String head = "partition a { memory 256; port so out sampling; port si in sampling; port qo out queuing;"
            + " port qi in queuing; port s2 out sampling; port t in sampling; } ";
        CHECK.fault(7, head + "channel sampling 0 { a.^si > output }");
        CHECK.fault(7, head + "channel sampling 0 { a.^qo > output }");
        CHECK.fault(7, head + "channel sampling 0 { a.^qi");
        CHECK.fault(7, head + "channel queuing 1 { a.^so > output }");
        CHECK.fault(7, head + "channel queuing 1 { a.^qi > output }");
        CHECK.fault(7, head + "channel sampling 0 { a.so > a.^so }");
        CHECK.fault(7, head + "channel sampling 0 { a.so > a.^s2 }");
        CHECK.fault(7, head + "channel sampling 0 { a.so > a.^qi }");
        CHECK.fault(7, head + "channel queuing 1 { input > a.^si }");
        CHECK.fault(7, head + "channel queuing 1 { input > a.^qo }");
        CHECK.fault(7, head + "channel sampling 0 { input > a.si, a.^si }");
        CHECK.fault(7, head + "channel sampling 0 { a.so > output } channel sampling 0 { a.^so > output }");
        CHECK.fault(7, head + "channel sampling 0 { input > a.si } channel sampling 0 { a.so > a.t, a.^si }");
        CHECK.fault(7, head + "channel queuing 1 { a.qo > a.qi } channel queuing 1 { a.^qo");
        CHECK.fine(head + "channel sampling 0 { a.so > a.si, output, a.t } channel queuing 1 { a.qo > a.qi }"
            + " channel sampling 1 { a.s2 > output } channel sampling 2 { input > output } frame { a 1; }");
    }
}
