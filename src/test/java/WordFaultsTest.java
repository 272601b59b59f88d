/** The Terms: faults 1 and 2, what a word is and where the text may end. */
public final class WordFaultsTest {
    private static final Check CHECK = new Check();

    public static void main(String[] args) {
        blanks();
        words();
        noWords();
        noWordsAreAhead();
        cannotStand();
        keywordsAreNoNames();
        everyPrefix();
        CHECK.end();
    }

    private static void blanks() {
        CHECK.fine("\n\n partition\na\n{\nmemory\n256\n;\n}\n\nframe { a 1 ; }  \n");
        CHECK.fine("partition a{memory 256;process p{entry 0;priority 0;}}frame{a 1;}");
        CHECK.fault(1, "^");
        CHECK.fault(1, "  \n ^");
        CHECK.fault(1, "partition  ^");
        CHECK.fault(1, "partition a { memory 256; } frame { a 1; ^");
        CHECK.fault(1, "^partitiona { memory 256; }");
        CHECK.fault(1, "partition a { ^memory256; }");
    }

    private static void words() {
        CHECK.fine("partition abcdefghijkl { memory 256; event z99999999999; } frame { abcdefghijkl 000001; }");
        CHECK.fine("partition a { memory 000256; } frame { a 1; }");
        CHECK.fine("partition late { memory 256; event illegal; event raised; event skip; event stop;"
            + " board again; board warm; board cold; board idle; buffer handle 1; } frame { late 1; }");
        CHECK.fine("partition frames { memory 256; event inn; event ou; event partitio; } frame { frames 1; }");
        // Names differ by any letter, by a digit in a letter's place and by their length alone.
        CHECK.fine("partition a { memory 256; event a; event aa; event az; event a0; board z; board a9; board b; board ba; }"
            + " frame { a 1; }");
        // Twelve letters tell names apart to the last one.
        CHECK.fine("partition a { memory 256; event zzzzzzzzzzzz; event zzzzzzzzzzz9; event z; event zz; } frame { a 1; }");
    }

    private static void noWords() {
        CHECK.fault(2, "^Partition a");
        CHECK.fault(2, "partition ^abcdefghijklm { memory 256; }");
        CHECK.fault(2, "partition a { memory ^0000256; }");
        CHECK.fault(2, "partition a { memory ^1234567");
        CHECK.fault(2, "partition a^\t{");
        CHECK.fault(2, "partition a ^\r\n{");
        CHECK.fault(2, "partition a^B {");
        CHECK.fault(2, "partition a ^_");
        CHECK.fault(2, "partition ^-1");
        CHECK.fault(2, "partition a { memory 256; } frame { a 1; } ^\0");
        CHECK.fault(2, "partition a { memory 256; } frame { a 1; } ^\u00ff");
        CHECK.fault(2, "^\u0080");
        CHECK.fault(2, "^" + "a".repeat(1000));
        CHECK.fault(2, "^" + "9".repeat(1000));
        // A number ends where its digits end; what follows is a word of its own.
        CHECK.fault(1, "partition a { memory 256^b; }");
    }

    private static void noWordsAreAhead() {
        CHECK.faultInside(2, Check.times(4, "event e#;") + "event ^%");
        CHECK.faultInside(2, "event e; event ^=");
        CHECK.faultInside(2, "^?");
        CHECK.faultInside(2, "semaphore s ^1000000 : 1;");
        CHECK.fault(2, "partition a { memory 256; } channel sampling 0 { ^!");
        // A fault at an earlier byte is met before a word that is none.
        CHECK.fault(5, "partition a { memory ^300#");
        CHECK.faultInside(3, "event e; event ^e#");
        CHECK.fault(6, "partition a { memory 256; } frame { ^b#");
    }

    private static void cannotStand() {
        CHECK.fault(1, "^frame { a 1; }");
        CHECK.fault(1, "^channel sampling 0 {");
        CHECK.fault(1, "partition ^5 {");
        CHECK.fault(1, "partition a ^;");
        CHECK.fault(1, "partition a { ^event e;");
        CHECK.fault(1, "partition a { ^}");
        CHECK.fault(1, "partition a { memory ^x");
        CHECK.fault(1, "partition a { memory 256 ^}");
        CHECK.faultInside(1, "^;");
        CHECK.faultInside(1, "^memory 256;");
        CHECK.faultInside(1, "^thing x;");
        CHECK.faultInside(1, "event e^,");
        CHECK.faultInside(1, "board w ^1;");
        CHECK.faultInside(1, "buffer b^;");
        CHECK.faultInside(1, "buffer b 1^:");
        CHECK.faultInside(1, "semaphore s 1 ^1;");
        CHECK.faultInside(1, "semaphore s 1 : ^;");
        CHECK.faultInside(1, "semaphore s ^: 1;");
        CHECK.faultInside(1, "process p { ^priority 1;");
        CHECK.faultInside(1, "process p { entry 0; ^entry 0;");
        CHECK.faultInside(1, "process p { entry 0; ^}");
        CHECK.faultInside(1, "process p { entry 0; priority 1; deadline 1; ^period 1;");
        CHECK.faultInside(1, "process p { entry 0; priority 1; stopped; ^handler;");
        CHECK.faultInside(1, "process p { entry 0; priority 1; handler; ^handler;");
        CHECK.faultInside(1, "process p { entry 0; priority 1; handler ^}");
        CHECK.faultInside(1, "process p { entry 0; priority 1; stopped ^1;");
        CHECK.faultInside(1, "process p { entry 0; priority 1; } ^; }");
        CHECK.faultInside(1, "port p ^sampling in;");
        CHECK.faultInside(1, "port p in ^out");
        CHECK.faultInside(1, "port p in queuing ^}");
        CHECK.faultInside(1, "errors ^late : skip;");
        CHECK.faultInside(1, "errors { ^}");
        CHECK.faultInside(1, "errors { ^soon : skip;");
        CHECK.faultInside(1, "errors { ^process : skip;");
        CHECK.faultInside(1, "errors { late ^skip;");
        CHECK.faultInside(1, "errors { late : ^late;");
        CHECK.faultInside(1, "errors { late : ^memory;");
        CHECK.faultInside(1, "errors { late : skip^, }");
        CHECK.faultInside(1, "errors { late : skip; ^soon : skip; }");
        CHECK.fault(1, "partition a { memory 256; } ^");
        CHECK.fault(1, "partition a { memory 256; } ^event e;");
        cannotStandInChannels();
        cannotStandInFrames();
    }

    private static void cannotStandInChannels() {
        String head = "partition a { memory 256; port o out sampling; port i in sampling; } ";
        CHECK.fault(1, head + "channel ^5");
        CHECK.fault(1, head + "channel ^a");
        CHECK.fault(1, head + "channel sampling ^{");
        CHECK.fault(1, head + "channel queuing 1 ^input");
        CHECK.fault(1, head + "channel queuing 1 { ^output > output }");
        CHECK.fault(1, head + "channel queuing 1 { input > ^input }");
        CHECK.fault(1, head + "channel queuing 1 { input ^, output }");
        CHECK.fault(1, head + "channel queuing 1 { input > ^}");
        CHECK.fault(1, head + "channel queuing 1 { input > output ^, output }");
        CHECK.fault(1, head + "channel sampling 0 { a ^> output }");
        CHECK.fault(1, head + "channel sampling 0 { a.^> output }");
        CHECK.fault(1, head + "channel sampling 0 { a.^port > output }");
        CHECK.fault(1, head + "channel sampling 0 { input > output ^; }");
        CHECK.fault(1, head + "channel sampling 0 { input > output, ^}");
        CHECK.fault(1, head + "channel sampling 0 { input > output, output, output, output ^");
        CHECK.fault(1, head + "channel sampling 0 { input > output } ^partition b { memory 256; }");
    }

    private static void cannotStandInFrames() {
        String head = "partition a { memory 256; } ";
        CHECK.fault(1, head + "frame ^a 1;");
        CHECK.fault(1, head + "frame { ^}");
        CHECK.fault(1, head + "frame { ^5");
        CHECK.fault(1, head + "frame { a ^;");
        CHECK.fault(1, head + "frame { a 1 ^}");
        CHECK.fault(1, head + "frame { a 1; ^;");
        CHECK.fault(1, head + "frame { a 1; } ^frame { a 1; }");
        CHECK.fault(1, head + "frame { a 1; } ^channel sampling 0 { input > output }");
        CHECK.fault(1, head + "frame { a 1; } ^}");
    }

    private static void keywordsAreNoNames() {
        String[] words = ("partition memory process entry priority period deadline handler stopped semaphore event"
            + " buffer board port in out errors channel sampling queuing input output frame").split(" ");
        for (String word : words) {
            CHECK.fault(1, "partition ^" + word + " { memory 256; }");
            CHECK.faultInside(1, "event ^" + word + ";");
            CHECK.fault(1, "partition a { memory 256; } frame { ^" + word + " 1; }");
            if (!word.equals("input")) {
                CHECK.fault(1, "partition a { memory 256; } channel sampling 0 { ^" + word + " > output }");
            }
        }
    }

    /** A text that ends too early has its fault at its end, unless the end cuts a word. */
    private static void everyPrefix() {
        String full = Check.FULL;
        for (int end = 0; end < full.length(); end++) {
            boolean inWord = end > 0 && Character.isLetterOrDigit(full.charAt(end - 1))
                && Character.isLetterOrDigit(full.charAt(end));
            if (!inWord) {
                CHECK.fault(1, full.substring(0, end) + "^");
            }
        }
    }
}
