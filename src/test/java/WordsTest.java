/** The Terms: WORDS, what a word is, what is none, and where two must be kept apart. */
public final class WordsTest {
    private static final Check CHECK = new Check();
    private static final String LETTERS = "abcdefghijklmnopqrstuvwxyz";
    private static final String DIGITS = "0123456789";
    private static final String SIGNS = "{};:.,>";

    public static void main(String[] args) {
        everyByte();
        lettersAndDigitsOfNames();
        lengthOfNames();
        lengthOfNumbers();
        wordsAreNoNames();
        nearlyWordsAreNames();
        kindsAndActionsAreNames();
        blanks();
        blanksWhereTheyMust();
        noBlanksWhereTheyNeedNot();
        longBlanks();
        CHECK.end();
    }

    /** Each of the 256 bytes as the first word of a text, as one in the middle and behind all. */
    private static void everyByte() {
        CHECK.sentence("2 a word that is none (at its beginning); signs { } ; : . , >; Spaces and line ends (32, 10)");
        for (char c = 0; c < 256; c++) {
            boolean blank = c == ' ' || c == '\n';
            boolean word = LETTERS.indexOf(c) >= 0 || DIGITS.indexOf(c) >= 0 || SIGNS.indexOf(c) >= 0;
            int fault = blank || word ? 1 : 2;
            CHECK.faultAt(fault, blank ? 1 : 0, "" + c);
            CHECK.faultAt(fault, blank ? 3 : 2, "  " + c);
            if (blank) {
                CHECK.fine("partition p" + c + "{ memory 256; } frame { p 1; }" + c);
            } else {
                CHECK.faultAt(fault, Check.SMALL.length(), Check.SMALL + c);
                CHECK.faultAt(c == '{' ? 1 : fault, c == '{' ? 13 : 12, "partition p " + c + "{ memory 256; }");
            }
        }
    }

    private static void lettersAndDigitsOfNames() {
        CHECK.sentence("names: a letter a .. z, then letters a .. z and digits");
        for (char c = 0; c < 256; c++) {
            boolean letter = LETTERS.indexOf(c) >= 0;
            boolean digit = DIGITS.indexOf(c) >= 0;
            if (letter) {
                CHECK.fine("partition " + c + "{memory 256;}frame{" + c + " 1;}");
            }
            if (letter || digit) {
                CHECK.fine("partition q" + c + "{memory 256;}frame{q" + c + " 1;}");
                CHECK.fine("partition q" + c + "q{memory 256;}frame{q" + c + "q 1;}");
            }
            if (digit) {
                CHECK.faultAt(1, 10, "partition " + c + "{memory 256;}");
            }
            if (!letter && !digit && SIGNS.indexOf(c) < 0 && c != ' ' && c != '\n') {
                CHECK.faultAt(2, 11, "partition q" + c + "q{memory 256;}");
            }
        }
    }

    private static void lengthOfNames() {
        CHECK.sentence("at most 12 in all; 2 a word that is too long (at its beginning)");
        for (int n = 1; n <= 40; n++) {
            for (String last : new String[] {"a", "z", "9"}) {
                String name = "z".repeat(n - 1) + (n == 1 ? "z" : last);
                if (n <= 12) {
                    CHECK.fine("partition " + name + "{memory 256;event " + name + ";}frame{" + name + " 1;}");
                } else {
                    CHECK.fault(2, "partition ^" + name + "{memory 256;}");
                    CHECK.faultInside(2, "event ^" + name + ";");
                    CHECK.fault(2, "^" + name);
                    CHECK.fault(2, "partition a{memory 256;}frame{^" + name);
                }
            }
        }
        CHECK.fine("partition abcdefghijkl { memory 256; event z99999999999; } frame { abcdefghijkl 1; }");
        CHECK.fault(2, "partition ^abcdefghijklm { memory 256; }");
        CHECK.fault(2, "partition ^a234567890123 { memory 256; }");
        CHECK.fault(2, "^partitionpart");
        CHECK.faultAt(2, 0, "a".repeat(2000));
        CHECK.faultAt(2, 1987, " ".repeat(1987) + "abcdefghijklm");
    }

    private static void lengthOfNumbers() {
        CHECK.sentence("numbers of 1 to 6 digits; 2 a word that is too long (at its beginning)");
        for (int n = 1; n <= 40; n++) {
            String one = "0".repeat(n - 1) + "1";
            if (n <= 6) {
                CHECK.fine("partition a{memory 256;}frame{a " + one + ";}");
            } else {
                CHECK.fault(2, "partition a{memory 256;}frame{a ^" + one + ";}");
            }
            String nines = "9".repeat(n);
            CHECK.fault(n <= 6 ? 5 : 2, "partition a{memory ^" + nines + ";}");
            CHECK.fault(n <= 6 ? 1 : 2, "^" + nines);
        }
        CHECK.fine("partition a { memory 000256; } frame { a 1; }");
        CHECK.fault(2, "partition a { memory ^0000256; } frame { a 1; }");
        CHECK.faultInside(2, "process p { entry ^0000000; priority 0; }");
        CHECK.faultInside(2, "process p { entry 0; priority 0; period ^0100000; }");
        // Numbers that would be 256 again if 32 or 64 bits of them were all.
        CHECK.fault(2, "partition a { memory ^4294967552; }");
        CHECK.fault(2, "partition a { memory ^18446744073709551872; }");
        CHECK.faultAt(2, 0, "9".repeat(2000));
        CHECK.faultAt(2, 1993, " ".repeat(1993) + "1234567");
        CHECK.fault(2, "partition ^-1");
        CHECK.fault(2, "partition a { memory ^-256; }");
        CHECK.fault(2, "partition a { memory ^+256; }");
    }

    private static void wordsAreNoNames() {
        CHECK.sentence("the words partition .. frame, which are no names");
        String ports = "partition a { memory 256; port o out sampling; port i in sampling; } channel sampling 0 { ";
        for (String word : Check.WORDS) {
            CHECK.fault(1, "partition ^" + word + " { memory 256; }");
            for (String sort : new String[] {"process", "semaphore", "event", "buffer", "board", "port"}) {
                CHECK.faultInside(1, sort + " ^" + word);
            }
            if (!word.equals("input")) {
                CHECK.fault(1, ports + "^" + word + " > output }");
            }
            CHECK.fault(1, ports + "a.^" + word + " > output }");
            if (!word.equals("output")) {
                CHECK.fault(1, ports + "a.o > ^" + word + " }");
            }
            CHECK.fault(1, ports + "a.o > a.^" + word + " }");
            CHECK.fault(1, "partition a { memory 256; } frame { ^" + word + " 1; }");
        }
    }

    private static void nearlyWordsAreNames() {
        CHECK.sentence("the words partition .. frame: whole, not a beginning of one nor one with more behind it");
        for (String word : Check.WORDS) {
            String less = word.substring(0, word.length() - 1);
            CHECK.fine("partition " + less + " { memory 256; event " + less + "; } frame { " + less + " 1; }");
            String more = word + "1";
            CHECK.fine("partition " + more + " { memory 256; event " + more + "; } frame { " + more + " 1; }");
            String tail = word.substring(1);
            CHECK.fine("partition " + tail + " { memory 256; event " + tail + "; } frame { " + tail + " 1; }");
        }
        CHECK.fault(1, "^partitio a { memory 256; }");
        CHECK.fault(1, "^partitions a { memory 256; }");
        CHECK.fault(1, "^artition a { memory 256; }");
        CHECK.faultInside(1, "^events e;");
        CHECK.faultInside(1, "^even e;");
    }

    private static void kindsAndActionsAreNames() {
        CHECK.sentence("these and illegal, late, raised are names as others elsewhere");
        String[] names = {"illegal", "late", "raised", "skip", "stop", "again", "warm", "cold", "idle", "handle"};
        for (String n : names) {
            CHECK.fine("partition " + n + " { memory 256; process p { entry 0; priority 0; handler; } port " + n
                + " in sampling; port o out sampling; errors { " + (n.equals("late") ? "late : idle" : "raised : handle")
                + "; } } channel sampling 0 { " + n + ".o > " + n + "." + n + " } frame { " + n + " 1; }");
            for (String thing : new String[] {"process # { entry 0; priority 0; }", "semaphore # 0 : 1;", "event #;",
                "buffer # 1;", "board #;"}) {
                CHECK.fineInside(thing.replace("#", n));
            }
        }
        CHECK.faultInside(1, "event ^memory;");
    }

    private static void blanks() {
        CHECK.sentence("Spaces and line ends (32, 10) stand between words");
        CHECK.fine("\n\n partition\na\n{\nmemory\n256\n;\n}\n\nframe { a 1 ; }  \n");
        CHECK.fine(Check.FULL.replace(" ", "\n"));
        CHECK.fine(Check.FULL.replace(" ", " \n ").replace("\n\n", "\n"));
        CHECK.fault(2, "partition a ^\t{");
        CHECK.fault(2, "partition a ^\r\n{");
        CHECK.fault(2, "partition a ^\f{");
        CHECK.fault(2, "partition a ^\u000b{");
        CHECK.fault(2, "partition a ^\u00a0{");
        CHECK.fault(2, "partition a ^\u001f{");
        CHECK.fault(2, "partition a ^!{");
    }

    private static void blanksWhereTheyMust() {
        CHECK.sentence("where they must");
        CHECK.fault(1, "^partitiona { memory 256; }");
        CHECK.fault(1, "partition a { ^memory256; }");
        CHECK.faultInside(1, "^evente;");
        CHECK.faultInside(1, "semaphore s1 ^: 2;");
        CHECK.faultInside(1, "buffer b1^;");
        CHECK.faultInside(1, "port p ^insampling;");
        CHECK.fault(6, "partition a { memory 256; } frame { ^a1;");
        // A word ends where it can't go on: a number at its last digit, a name ahead of what is no letter and no digit.
        CHECK.fault(1, "partition a { memory 256^b; }");
        CHECK.fault(2, "partition a^B {");
        CHECK.fault(2, "partition a^_b {");
    }

    private static void noBlanksWhereTheyNeedNot() {
        CHECK.sentence("where they must: nowhere else");
        String tight = Check.FULL.replaceAll("[ \n]*([{};:.,>])[ \n]*", "$1");
        CHECK.fine(tight);
        CHECK.same("what is told", Check.told(CHECK.loaded(tight)), Check.told(CHECK.loaded(Check.FULL)));
        String wide = Check.FULL.replaceAll("([{};:.,>])", " $1 ");
        CHECK.same("what is told", Check.told(CHECK.loaded(wide)), Check.told(CHECK.loaded(Check.FULL)));
    }

    private static void longBlanks() {
        CHECK.sentence("Spaces and line ends stand between words: as many as there is room for");
        String rest = Check.SMALL.substring(9);
        CHECK.fine("partition" + "\n ".repeat((2000 - Check.SMALL.length()) / 2) + rest);
        CHECK.fault(1, "^");
        CHECK.fault(1, "  \n ^");
        CHECK.fault(1, "partition  ^");
        CHECK.fault(1, "partition a { memory 256; } frame { a 1; \n\n^");
    }
}
