import java.util.ArrayList;
import java.util.List;

/**
 * The Terms: fault 1 (what can't stand there, or the end where more must) and fault 2 at each place of a
 * text. A place is a text up to it with the words that can stand behind it; all other words are tried there.
 */
public final class StandTest {
    private static final Check CHECK = new Check();
    private static final String NAME = "NAME";
    private static final String NUMBER = "NUMBER";
    private static final String END = "END";
    private static final String THINGS = "process semaphore event buffer board port errors }";
    private static final String KINDS = "illegal memory late raised";
    private static final String ACTIONS = "skip stop again warm cold idle handle";
    private static final String PORTS = "partition a { memory 256; port so out sampling; port si in sampling;"
        + " port qo out queuing; port qi in queuing; } ";

    /** Names that stand for themselves in an errors { } and for a name elsewhere. */
    private static final String[] NAMES = (KINDS.replace("memory ", "") + " " + ACTIONS + " x a e so z9").split(" ");
    private static final String[] NUMBERS = {"0", "1", "256", "999999"};
    private static final String[] NO_WORDS = {"A", "#", "\t", "\r", "\0", "\u00ff", "-", "abcdefghijklm", "0000001"};

    public static void main(String[] args) {
        CHECK.sentence("1 what can't stand there, or the end where more must (at it); 2 a word that is none, or too long");
        partitions();
        processes();
        otherThings();
        errors();
        channels();
        frames();
        everyPrefix();
        CHECK.end();
    }

    /** At the end of a text the words of a list can stand, and no others. */
    private static void place(String text, String list) {
        List<String> can = List.of(list.split(" "));
        for (String word : tried()) {
            boolean stands = can.contains(word) || can.contains(kindOf(word));
            if (stands) {
                stands(text, word);
            } else {
                CHECK.faultAt(1, text.length(), text + word);
                CHECK.faultAt(1, text.length(), text + word + " more #");
            }
        }
        for (String none : NO_WORDS) {
            CHECK.faultAt(2, text.length(), text + none);
        }
        if (!can.contains(END)) {
            CHECK.faultAt(1, text.length(), text);
            CHECK.faultAt(1, text.length() + 2, text + "\n ");
        }
    }

    private static List<String> tried() {
        List<String> all = new ArrayList<>(List.of(Check.WORDS));
        all.addAll(List.of("{", "}", ";", ":", ".", ",", ">"));
        all.addAll(List.of(NAMES));
        all.addAll(List.of(NUMBERS));
        return all;
    }

    private static String kindOf(String word) {
        if (List.of(NAMES).contains(word)) {
            return NAME;
        }
        return List.of(NUMBERS).contains(word) ? NUMBER : "";
    }

    private static void stands(String text, String word) {
        ConfigTexts x = new ConfigTexts();
        Check.load(x, text + word);
        boolean refused = x.fault(0) <= 2 && x.fault(1) == text.length();
        CHECK.same(text + word + " is refused", refused, false);
    }

    private static void partitions() {
        place("", "partition");
        place("partition ", NAME);
        place("partition b ", "{");
        place("partition b { ", "memory");
        place("partition b { memory ", NUMBER);
        place("partition b { memory 256 ", ";");
        place("partition b { memory 256; ", THINGS);
        place("partition b { memory 256; } ", "partition channel frame");
        place("partition b { memory 256; } partition ", NAME);
        place("partition b { memory 256; } partition c { memory 256; event z; } ", "partition channel frame");
    }

    private static void processes() {
        String head = "partition b { memory 256; process ";
        place(head, NAME);
        place(head + "p ", "{");
        place(head + "p { ", "entry");
        place(head + "p { entry ", NUMBER);
        place(head + "p { entry 0 ", ";");
        place(head + "p { entry 0; ", "priority");
        place(head + "p { entry 0; priority ", NUMBER);
        place(head + "p { entry 0; priority 0 ", ";");
        String set = head + "p { entry 0; priority 0; ";
        place(set, "period deadline handler stopped }");
        place(set + "period ", NUMBER);
        place(set + "period 1 ", ";");
        place(set + "period 1; ", "deadline handler stopped }");
        place(set + "deadline ", NUMBER);
        place(set + "deadline 1 ", ";");
        place(set + "deadline 1; ", "handler stopped }");
        place(set + "period 1; deadline 1; ", "handler stopped }");
        place(set + "handler ", ";");
        place(set + "handler; ", "stopped }");
        place(set + "period 1; handler; ", "stopped }");
        place(set + "stopped ", ";");
        place(set + "stopped; ", "}");
        place(set + "deadline 1; stopped; ", "}");
        place(set + "} ", THINGS);
        place(set + "handler; stopped; } ", THINGS);
    }

    private static void otherThings() {
        String head = "partition b { memory 256; ";
        place(head + "semaphore ", NAME);
        place(head + "semaphore s ", NUMBER);
        place(head + "semaphore s 0 ", ":");
        place(head + "semaphore s 0 : ", NUMBER);
        place(head + "semaphore s 0 : 1 ", ";");
        place(head + "semaphore s 0 : 1; ", THINGS);
        place(head + "event ", NAME);
        place(head + "event y ", ";");
        place(head + "event y; ", THINGS);
        place(head + "buffer ", NAME);
        place(head + "buffer y ", NUMBER);
        place(head + "buffer y 1 ", ";");
        place(head + "buffer y 1; ", THINGS);
        place(head + "board ", NAME);
        place(head + "board y ", ";");
        place(head + "board y; ", THINGS);
        place(head + "port ", NAME);
        place(head + "port y ", "in out");
        place(head + "port y in ", "sampling queuing");
        place(head + "port y out ", "sampling queuing");
        place(head + "port y in sampling ", ";");
        place(head + "port y out queuing ", ";");
        place(head + "port y out queuing; ", THINGS);
    }

    private static void errors() {
        String head = "partition b { memory 256; errors ";
        place(head, "{");
        place(head + "{ ", KINDS);
        for (String kind : KINDS.split(" ")) {
            place(head + "{ " + kind + " ", ":");
            place(head + "{ " + kind + " : ", ACTIONS);
            place(head + "{ " + kind + " : idle ", ";");
            place(head + "{ " + kind + " : idle; ", KINDS + " }");
        }
        for (String action : ACTIONS.split(" ")) {
            place(head + "{ late : " + action + " ", ";");
        }
        place(head + "{ late : idle; raised : stop; illegal : cold; memory : warm; ", KINDS + " }");
        place(head + "{ late : idle; } ", THINGS);
    }

    private static void channels() {
        place(PORTS + "channel ", "sampling queuing");
        for (String mode : new String[] {"sampling", "queuing"}) {
            String more = mode.equals("sampling") ? ", }" : "}";
            String out = "a." + mode.charAt(0) + "o ";
            String in = "a." + mode.charAt(0) + "i ";
            String head = PORTS + "channel " + mode + " ";
            place(head, NUMBER);
            place(head + "1 ", "{");
            place(head + "1 { ", "input " + NAME);
            place(head + "1 { input ", ">");
            place(head + "1 { a ", ".");
            place(head + "1 { a.", NAME);
            place(head + "1 { " + out, ">");
            place(head + "1 { " + out + "> ", "output " + NAME);
            place(head + "1 { " + out + "> output ", more);
            place(head + "1 { " + out + "> a ", ".");
            place(head + "1 { " + out + "> a.", NAME);
            place(head + "1 { " + out + "> " + in, more);
            place(head + "1 { " + out + "> " + in + "} ", "channel frame");
        }
        String goals = PORTS + "channel sampling 1 { a.so > ";
        place(goals + "output, ", "output " + NAME);
        place(goals + "a.si, ", "output " + NAME);
        place(goals + "output, a.si ", ", }");
        place(goals + "output, a.si, output, ", "output " + NAME);
        place(goals + "output, a.si, output, output ", ", }");
    }

    private static void frames() {
        place(PORTS + "frame ", "{");
        place(PORTS + "frame { ", NAME);
        place(PORTS + "frame { a ", NUMBER);
        place(PORTS + "frame { a 1 ", ";");
        place(PORTS + "frame { a 1; ", NAME + " }");
        place(PORTS + "frame { a 1; a 2; ", NAME + " }");
        place(PORTS + "frame { a 1; } ", END);
    }

    /** A text that ends too early has its fault at its end, unless the end cuts a word. */
    private static void everyPrefix() {
        String full = Check.FULL;
        for (int end = 0; end < full.length(); end++) {
            boolean inWord = end > 0 && Character.isLetterOrDigit(full.charAt(end - 1))
                && Character.isLetterOrDigit(full.charAt(end));
            if (!inWord) {
                CHECK.fault(1, full.substring(0, end) + "^");
            }
        }
    }
}
