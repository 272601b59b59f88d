/** The Terms: which fault is the first that is met, and which is ahead at one byte. */
public final class AheadTest {
    private static final Check CHECK = new Check();
    private static final String FOUR = Check.times(4, "event e#; ");
    private static final String PORTS = "partition a { memory 256; port o out sampling; port i in sampling; event e; } ";

    public static void main(String[] args) {
        firstThatIsMet();
        noWordAheadOfAll();
        oneMoreAheadOfOthers();
        cannotStandAheadOfOthers();
        handleIsMetAtTheEndOfItsPartition();
        CHECK.end();
    }

    private static void firstThatIsMet() {
        CHECK.sentence("FAULTS, the first that is met");
        CHECK.fault(5, "partition a { memory ^300#");
        CHECK.fault(5, "partition a { memory ^300 # } partition a {");
        CHECK.fault(1, "partition a ^} memory 300; #");
        CHECK.faultInside(3, "event e; event ^e#");
        CHECK.faultInside(3, "event e; semaphore ^e 101 : 0;");
        CHECK.faultInside(5, "semaphore s ^101 : 0; semaphore s");
        CHECK.faultInside(5, "semaphore s 3 : ^2# ");
        CHECK.faultInside(4, FOUR + "event ^e0#");
        CHECK.faultInside(7, "errors { late : skip; ^late# : stop; }");
        CHECK.faultInside(7, "errors { late : skip; } ^errors#");
        CHECK.faultInside(7, "process p { entry 0; priority 0; handler; } process q { entry 0; priority 0; ^handler#");
        CHECK.fault(6, PORTS + "frame { ^b#");
        CHECK.fault(6, PORTS + "frame { ^b 0; }");
        CHECK.fault(5, PORTS + "frame { a ^0; b 1; }");
        CHECK.fault(6, PORTS + "channel sampling 0 { ^b#");
        CHECK.fault(6, PORTS + "channel sampling 0 { a.^e#");
        CHECK.fault(7, PORTS + "channel sampling 0 { a.^i#");
        CHECK.fault(7, PORTS + "channel sampling 0 { a.o > a.^o# ");
        CHECK.fault(5, PORTS + "channel sampling ^100001 { b.o > output }");
    }

    private static void noWordAheadOfAll() {
        CHECK.sentence("At one byte 2 is ahead of all");
        String[] none = {"%", "A", "\u00ff", "\0", "abcdefghijklm", "1234567"};
        for (String word : none) {
            // Of 4, which is due at anything else there.
            CHECK.faultInside(2, FOUR + "event ^" + word);
            CHECK.fault(2, Check.times(8, "partition n#{memory 256;}") + "partition ^" + word);
            CHECK.fault(2, PORTS + "channel sampling 0 { input > output, output, output, output, ^" + word);
            CHECK.fault(2, PORTS + "frame { " + Check.times(16, "a 1; ") + "^" + word);
            // Of 1, 5 and 6.
            CHECK.fault(2, "^" + word);
            CHECK.fault(2, "partition a { memory ^" + word);
            CHECK.fault(2, PORTS + "frame { ^" + word);
            CHECK.fault(2, PORTS + "channel sampling 0 { a.^" + word);
        }
        // Of 3, where the first twelve letters are a name that is there.
        CHECK.faultInside(2, "event abcdefghijkl; event ^abcdefghijklm;");
        CHECK.fault(2, "partition abcdefghijkl { memory 256; } partition ^abcdefghijkl0 {");
        CHECK.fault(2, Check.times(8, "partition p#{memory 256;}") + Check.times(16, "channel sampling #{input>output}")
            + "^channels99999");
    }

    private static void oneMoreAheadOfOthers() {
        CHECK.sentence("At one byte 2 is ahead of all, then 4, then 1, 3, then others");
        // Of 1.
        CHECK.faultInside(4, FOUR + "event ^;");
        CHECK.faultInside(4, FOUR + "event ^event");
        CHECK.faultInside(4, FOUR + "event ^5");
        CHECK.faultInside(4, FOUR + "event ^");
        CHECK.fault(4, PORTS + "frame { " + Check.times(16, "a 1; ") + "^5");
        CHECK.fault(4, PORTS + "channel sampling 0 { input > output, output, output, output, ^}");
        // Of 3.
        CHECK.faultInside(4, FOUR + "event ^e0");
        CHECK.faultInside(4, "board w; " + FOUR + "event ^w");
        CHECK.fault(4, Check.times(8, "partition n#{memory 256;}") + "partition ^n7");
        // Of 6.
        CHECK.fault(4, PORTS + "frame { " + Check.times(16, "a 1; ") + "^b 1; }");
        CHECK.fault(4, PORTS + "channel sampling 0 { input > output, output, output, output, ^b.i }");
        // A faulty one that is still one of the sixteen, or of the four, has its own fault.
        CHECK.fault(6, PORTS + "frame { " + Check.times(15, "a 1; ") + "^b 1; }");
        CHECK.fault(6, PORTS + "channel sampling 0 { input > output, output, output, ^b.i }");
        CHECK.faultInside(3, Check.times(3, "event e#; ") + "event ^e0");
        CHECK.fault(3, Check.times(7, "partition n#{memory 256;}") + "partition ^n6");
    }

    private static void cannotStandAheadOfOthers() {
        CHECK.sentence("At one byte 2 is ahead of all, then 4, then 1, 3, then others: 1 of 7");
        String set = "process p { entry 0; priority 0; ";
        CHECK.faultInside(1, set + "handler; ^handler; }");
        CHECK.faultInside(1, set + "stopped; ^handler; }");
        CHECK.faultInside(1, set + "handler; } process q { entry 0; priority 0; stopped; ^handler; }");
        CHECK.faultInside(1, set + "handler; } process q { entry 0; ^handler; }");
        CHECK.faultInside(1, "errors { late : skip; } event ^errors;");
        CHECK.faultInside(1, "errors { late : skip; ^errors { late : skip; } }");
        CHECK.faultInside(1, "errors { late : ^late; }");
        CHECK.sentence("At one byte 2 is ahead of all, then 4, then 1, 3, then others: 1 of 6");
        CHECK.fault(1, PORTS + "frame { ^event 1; }");
        CHECK.fault(1, PORTS + "channel sampling 0 { ^output > output }");
        CHECK.fault(1, PORTS + "channel sampling 0 { a.^input > output }");
        CHECK.fault(1, PORTS + "channel sampling 0 { a.o > ^input }");
        CHECK.faultInside(1, "errors { ^soon : skip; }");
        CHECK.faultInside(1, "errors { late : ^soon; }");
        CHECK.sentence("At one byte 2 is ahead of all, then 4, then 1, 3, then others: 1 of 5");
        CHECK.fault(1, "partition ^0");
        CHECK.faultInside(1, "event e ^999999;");
    }

    private static void handleIsMetAtTheEndOfItsPartition() {
        CHECK.sentence("handle in a partition that has no handler (at the first handle, when the partition's } is at hand)");
        CHECK.faultInside(7, "errors { late : ^handle; } }");
        CHECK.faultInside(7, "errors { late : ^handle; } }#");
        CHECK.faultInside(1, "errors { late : handle; } ^");
        CHECK.faultInside(1, "errors { late : handle; } ^;");
        CHECK.faultInside(1, "errors { late : handle; } ^partition");
        CHECK.faultInside(2, "errors { late : handle; } ^#}");
        CHECK.faultInside(3, "event e; errors { late : handle; } event ^e; }");
        CHECK.faultInside(4, FOUR + "errors { late : handle; } event ^} }");
        CHECK.faultInside(5, "errors { late : handle; } buffer b ^9; }");
        CHECK.faultInside(7, "errors { late : handle; } ^errors { raised : handle; } }");
        CHECK.faultInside(1, "errors { late : handle^} }");
    }
}
