/** Promise 3: load, and that the text in hand and the configuration are as told behind it. */
public final class LoadTest {
    private static final Check CHECK = new Check();

    public static void main(String[] args) {
        howMany();
        emptyBehindAWholeText();
        emptyBehindAFault();
        nothingOfALongerTextIsRead();
        fullText();
        noConfigurationBehindAFault();
        everyFaultThrows();
        configurationIsReplaced();
        configurationStandsUntilLoad();
        upToTheLastCall();
        CHECK.end();
    }

    private static void howMany() {
        CHECK.sentence("is the configuration: how many partitions");
        for (int n = 1; n <= 8; n++) {
            String text = Check.times(n, "partition p#{memory 256;}") + "frame{p0 1;}";
            ConfigTexts x = new ConfigTexts();
            CHECK.same("load() of " + n, Check.load(x, text), n);
            CHECK.same("size(0)", x.size(0), n);
        }
        CHECK.same("load() of two with something of everything", Check.load(new ConfigTexts(), Check.FULL), 2);
    }

    private static void emptyBehindAWholeText() {
        CHECK.sentence("The text in hand, which is empty then");
        ConfigTexts x = CHECK.loaded(Check.FULL);
        CHECK.same("load() of no text", Check.load(x), Check.THROWN);
        CHECK.row("fault", x::fault, 1, 0);
        CHECK.same("load() of no text again", Check.load(x), Check.THROWN);
        CHECK.row("fault", x::fault, 1, 0);
        CHECK.same("load() of a new text", Check.load(x, Check.SMALL), 1);
    }

    private static void emptyBehindAFault() {
        CHECK.sentence("The text in hand, which is empty then: with a FAULT, too");
        ConfigTexts x = new ConfigTexts();
        CHECK.same("load() of a fault", Check.load(x, "partition a # and more behind it"), Check.THROWN);
        CHECK.same("load() of no text", Check.load(x), Check.THROWN);
        CHECK.row("fault", x::fault, 1, 0);
        CHECK.same("load() of a fault", Check.load(x, "#"), Check.THROWN);
        CHECK.same("load() of a new text", Check.load(x, Check.SMALL), 1);
    }

    private static void nothingOfALongerTextIsRead() {
        CHECK.sentence("The text in hand, which is empty then: no byte of it comes to the next");
        ConfigTexts x = CHECK.loaded(Check.FULL);
        for (int end = 1; end <= 12; end++) {
            // Cut in a word as well: what is left of it is the word, and it ends where the new text ends.
            Check.load(x, Check.FULL.substring(0, end));
            boolean whole = end >= 9;
            CHECK.row("fault of " + end + " bytes", x::fault, 1, whole ? end : 0);
        }
        CHECK.same("load()", Check.load(x, Check.SMALL), 1);
    }

    private static void fullText() {
        CHECK.sentence("The text in hand is the configuration: all 2000 bytes of it");
        String blanks = " ".repeat(2000 - Check.FULL.length());
        CHECK.same("blanks ahead", Check.load(new ConfigTexts(), blanks + Check.FULL), 2);
        CHECK.same("blanks behind", Check.load(new ConfigTexts(), Check.FULL + blanks), 2);
        String open = Check.FULL.substring(0, Check.FULL.length() - 1);
        CHECK.faultAt(1, 2000, blanks + " " + open);
        CHECK.faultAt(1, 1999, blanks + open + ";");
        CHECK.faultAt(2, 1999, blanks + open + "#");
    }

    private static void noConfigurationBehindAFault() {
        CHECK.sentence("IllegalArgumentException: a FAULT (there is no configuration then)");
        String none = Check.told(new ConfigTexts()).substring("0 -1; ".length());
        // From the first byte to the last: whatever was read ahead of the fault is not told.
        for (int end = 0; end >= 0; end = Check.FULL.indexOf(' ', end + 1)) {
            ConfigTexts x = CHECK.loaded(Check.FULL);
            Check.load(x, Check.FULL.substring(0, end) + "#");
            CHECK.row("fault", x::fault, 2, end);
            String told = Check.told(x);
            CHECK.same("what is told", told.substring(told.indexOf("; ") + 2), none);
        }
        ConfigTexts x = CHECK.loaded(Check.FULL);
        CHECK.same("load() with a word behind the frame", Check.load(x, Check.FULL + ";"), Check.THROWN);
        CHECK.row("size", x::size, 0, 0, 0, 0, 0, 0, -1);
        CHECK.row("fault", x::fault, 1, Check.FULL.length());
    }

    private static void everyFaultThrows() {
        CHECK.sentence("IllegalArgumentException: a FAULT, each of the seven");
        CHECK.fault(1, "^");
        CHECK.fault(2, "^#");
        CHECK.faultInside(3, "event e; event ^e;");
        CHECK.faultInside(4, Check.times(4, "event e#; ") + "event ^e;");
        CHECK.fault(5, "partition a { memory ^0;");
        CHECK.fault(6, "partition a { memory 256; } frame { ^b");
        CHECK.faultInside(7, "errors { late : ^handle; } }");
    }

    private static void configurationIsReplaced() {
        CHECK.sentence("The text in hand is the configuration: nothing of the one before");
        ConfigTexts x = CHECK.loaded(Check.FULL);
        String small = Check.told(CHECK.loaded(Check.SMALL));
        CHECK.same("load()", Check.load(x, Check.SMALL), 1);
        CHECK.same("what is told", Check.told(x), small);
        CHECK.same("load() of the first again", Check.load(x, Check.FULL), 2);

        ConfigTexts y = CHECK.loaded(Check.SMALL);
        Check.load(y, Check.FULL + "#");
        CHECK.same("load() behind a fault", Check.load(y, Check.SMALL), 1);
        CHECK.same("what is told behind a fault", Check.told(y), small);
    }

    private static void configurationStandsUntilLoad() {
        CHECK.sentence("The text in hand is the configuration: from load() on, not from put");
        ConfigTexts x = CHECK.loaded(Check.FULL);
        String before = Check.told(x);
        Check.put(x, Check.SMALL);
        CHECK.same("what is told behind put", Check.told(x), before);
        CHECK.same("load(): asking left the text alone", Check.load(x), 1);
    }

    private static void upToTheLastCall() {
        CHECK.sentence("An object is used for at most 512 calls");
        ConfigTexts x = CHECK.loaded(Check.SMALL);
        int calls = 1 + (Check.SMALL.length() + 7) / 8;
        for (; calls < 512 - 2 - Check.SMALL.length(); calls++) {
            x.put(-1L, 9);
        }
        for (int k = 0; k < Check.SMALL.length(); k++) {
            x.put(Check.SMALL.charAt(k), 1);
        }
        CHECK.same("load() as call 511", Check.load(x), 1);
        CHECK.same("size(5) as call 512", x.size(5), 1);
    }
}
