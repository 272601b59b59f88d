import java.util.ArrayList;
import java.util.List;

/** The Terms: faults 3 (a NAME anew that is there) and 6 (a name that is not there, or of another sort). */
public final class NameFaultsTest {
    private static final Check CHECK = new Check();
    private static final String[] THINGS = {
        "process # { entry 0; priority 0; }", "semaphore # 0 : 1;", "event #;", "buffer # 1;", "board #;", "port # in queuing;"
    };
    private static final String HEAD = "partition a { memory 256; event e; process p { entry 0; priority 0; } semaphore s 0 : 1;"
        + " buffer b 1; board w; port o out sampling; } partition b { memory 256; port i in sampling; } ";

    public static void main(String[] args) {
        thingsAnew();
        thingsAnewBehindOthers();
        partitionsAnew();
        namesThatMayBe();
        namesToldApart();
        shortNamesToldApart();
        partitionNotThere();
        portNotThere();
        ofAnotherSort();
        windowNotThere();
        notThereYet();
        nothingOfTheLoadBefore();
        CHECK.end();
    }

    private static void thingsAnew() {
        CHECK.sentence("3 a NAME anew that is there (at it; of things in their partition)");
        for (String first : THINGS) {
            for (String second : THINGS) {
                CHECK.faultInside(3, first.replace("#", "same") + second.replace("#", "^same"));
                CHECK.fineInside(first.replace("#", "same") + second.replace("#", "other"));
            }
        }
        for (int n = 1; n <= 12; n++) {
            String name = "z9y8x7w6v5u4".substring(0, n);
            CHECK.faultInside(3, "event " + name + "; board ^" + name + ";");
        }
    }

    private static void thingsAnewBehindOthers() {
        CHECK.sentence("3 a NAME anew that is there: the first, the last, one between");
        String eight = Check.times(8, "process p#{entry 0;priority 0;}");
        String all = eight + Check.times(8, "port q# in queuing;") + Check.times(4, "semaphore s# 0:1;buffer b# 1;board w#;")
            + Check.times(3, "event e#;");
        for (String name : new String[] {"p0", "p4", "p7", "q0", "q7", "s0", "s3", "b0", "b3", "w0", "w3", "e0", "e2"}) {
            CHECK.faultInside(3, all + "event ^" + name + ";");
        }
        CHECK.fineInside(all + "event e3;");
    }

    private static void partitionsAnew() {
        CHECK.sentence("3 a NAME anew that is there (at it; of partitions)");
        CHECK.fault(3, "partition a { memory 256; } partition ^a");
        for (int n = 1; n < 8; n++) {
            String all = Check.times(n, "partition n#{memory 256;}");
            for (int k = 0; k < n; k++) {
                CHECK.fault(3, all + "partition ^n" + k + "{memory 256;}frame{n0 1;}");
            }
        }
    }

    private static void namesThatMayBe() {
        CHECK.sentence("of things in their partition, of partitions: not of things elsewhere, not of the one among the other");
        CHECK.fine("partition a { memory 256; event a; event b; } partition b { memory 256; event a; board b; } frame { b 1; }");
        CHECK.fine("partition a { memory 256; event b; } partition b { memory 256; event b; } frame { a 1; b 1; }");
    }

    private static void namesToldApart() {
        CHECK.sentence("3 a NAME anew that is there: not one that differs in any letter or in its length");
        String letters = "abcdefghijklmnopqrstuvwxyz0123456789";
        for (int at = 0; at < 12; at++) {
            for (int k = 0; k < (at == 0 ? 26 : 36); k++) {
                String name = "mmmmmmmmmmmm".substring(0, at) + letters.charAt(k) + "mmmmmmmmmmmm".substring(at + 1);
                if (letters.charAt(k) == 'm') {
                    CHECK.faultInside(3, "event mmmmmmmmmmmm; event ^" + name + ";");
                } else {
                    CHECK.fineInside("event mmmmmmmmmmmm; event " + name + ";");
                }
            }
        }
        for (String letter : new String[] {"a", "z"}) {
            for (int n = 2; n <= 12; n++) {
                CHECK.fineInside("event " + letter + "; event " + letter.repeat(n) + "; board " + letter + "0".repeat(n - 1)
                    + "; board " + letter + "9".repeat(n - 1) + ";");
            }
        }
        CHECK.fineInside("event ab; event ba; event a1; event b1;");
    }

    /** Every name of one or two letters beside every other: sixteen in a partition, eight and eight of two groups. */
    private static void shortNamesToldApart() {
        CHECK.sentence("3 a NAME anew that is there: no two names are taken for one");
        List<String> names = new ArrayList<>();
        for (char first = 'a'; first <= 'z'; first++) {
            names.add("" + first);
            for (char second : "abcdefghijklmnopqrstuvwxyz0123456789".toCharArray()) {
                names.add("" + first + second);
            }
        }
        names.removeAll(List.of(Check.WORDS));
        for (int one = 0; one < names.size(); one += 8) {
            for (int other = one + 8; other < names.size(); other += 8) {
                CHECK.fineInside(eight(names, one, "event #;", "buffer # 1;") + eight(names, other, "board #;", "semaphore # 0:1;"));
            }
        }
    }

    private static String eight(List<String> names, int from, String firstFour, String lastFour) {
        StringBuilder all = new StringBuilder();
        for (int k = from; k < Math.min(names.size(), from + 8); k++) {
            all.append((k < from + 4 ? firstFour : lastFour).replace("#", names.get(k)));
        }
        return all.toString();
    }

    private static void partitionNotThere() {
        CHECK.sentence("6 a name that is not there (at it): a partition of a SOURCE or a GOAL");
        CHECK.fault(6, HEAD + "channel sampling 0 { ^c.o > b.i }");
        CHECK.fault(6, HEAD + "channel sampling 0 { ^c");
        CHECK.fault(6, HEAD + "channel sampling 0 { ^c;");
        CHECK.fault(6, HEAD + "channel sampling 0 { ^aa.o > b.i }");
        CHECK.fault(6, HEAD + "channel sampling 0 { a.o > ^c.i }");
        CHECK.fault(6, HEAD + "channel sampling 0 { a.o > output, ^c");
        CHECK.fault(6, HEAD + "channel queuing 1 { ^c.o > output }");
        CHECK.fault(6, HEAD + "channel queuing 1 { input > ^c.i }");
    }

    private static void portNotThere() {
        CHECK.sentence("6 a name that is not there (at it): a port of a SOURCE or a GOAL");
        CHECK.fault(6, HEAD + "channel sampling 0 { a.^i > b.i }");
        CHECK.fault(6, HEAD + "channel sampling 0 { b.^o > b.i }");
        CHECK.fault(6, HEAD + "channel sampling 0 { a.^oo > b.i }");
        CHECK.fault(6, HEAD + "channel sampling 0 { a.o > a.^i }");
        CHECK.fault(6, HEAD + "channel sampling 0 { a.o > b.i, b.^j }");
        CHECK.fault(6, HEAD + "channel queuing 1 { input > b.^j");
        CHECK.fine(HEAD + "channel sampling 0 { a.o > b.i } frame { a 1; }");
    }

    private static void ofAnotherSort() {
        CHECK.sentence("6 a name that is of another sort (at it)");
        for (String thing : new String[] {"e", "p", "s", "b", "w", "a"}) {
            CHECK.fault(6, HEAD + "channel sampling 0 { a.^" + thing + " > b.i }");
            CHECK.fault(6, HEAD + "channel sampling 0 { a.o > a.^" + thing + " }");
            CHECK.fault(6, HEAD + "channel queuing 1 { input > a.^" + thing + " }");
        }
        for (String thing : new String[] {"e", "p", "s", "w", "o", "i"}) {
            CHECK.fault(6, HEAD + "channel sampling 0 { ^" + thing + ".o > b.i }");
            CHECK.fault(6, HEAD + "channel sampling 0 { input > ^" + thing + " }");
            CHECK.fault(6, HEAD + "frame { ^" + thing + " 1; }");
        }
    }

    private static void windowNotThere() {
        CHECK.sentence("6 a name that is not there (at it): a partition of a window");
        CHECK.fault(6, HEAD + "frame { ^c 1; }");
        CHECK.fault(6, HEAD + "frame { ^c");
        CHECK.fault(6, HEAD + "frame { a 1; ^ab 0; }");
        CHECK.fault(6, HEAD + "frame { " + Check.times(15, "a 1; ") + "^c 1; }");
        CHECK.fine(HEAD + "frame { b 1; a 1; }");
    }

    private static void notThereYet() {
        CHECK.sentence("PARTITIONS, then CHANNELS: the ports of all partitions are there for each channel");
        CHECK.fine("partition a { memory 256; port i in queuing; } partition b { memory 256; port o out queuing; }"
            + " channel queuing 1 { b.o > a.i } frame { a 1; }");
        CHECK.fine("partition a { memory 256; port i in queuing; port o out queuing; }"
            + " channel queuing 1 { a.o > a.i } frame { a 1; }");
    }

    private static void nothingOfTheLoadBefore() {
        CHECK.sentence("3 a NAME anew that is there, 6 a name that is not there: in this text");
        ConfigTexts x = CHECK.loaded(Check.FULL);
        CHECK.same("load() of the same names", Check.load(x, Check.FULL), 2);
        Check.load(x, "partition a { memory 256; } channel queuing 2 { a.to > output }");
        CHECK.row("a port of the load before", x::fault, 6, 50);
        Check.load(x, "partition a { memory 256; } frame { b 1; }");
        CHECK.row("a partition of the load before", x::fault, 6, 36);
        Check.load(x, "partition a { memory 256; event main; event");
        CHECK.row("a process of the load before", x::fault, 1, 43);
    }
}
