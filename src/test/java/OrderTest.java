import java.util.ArrayList;
import java.util.List;

/** The Terms: what may come in any order, and what may not. */
public final class OrderTest {
    private static final Check CHECK = new Check();

    public static void main(String[] args) {
        thingsInAnyOrder();
        kindsInAnyOrder();
        settingsInTheirOrder();
        partitionsThenChannelsThenFrame();
        CHECK.end();
    }

    /** All orders of some texts, each joined to one. */
    private static List<String> orders(List<String> parts) {
        if (parts.isEmpty()) {
            return List.of("");
        }
        List<String> all = new ArrayList<>();
        for (int k = 0; k < parts.size(); k++) {
            List<String> rest = new ArrayList<>(parts);
            String first = rest.remove(k);
            for (String order : orders(rest)) {
                all.add(first + order);
            }
        }
        return all;
    }

    private static void thingsInAnyOrder() {
        CHECK.sentence("THINGS, in any order");
        List<String> things = List.of("process p{entry 8;priority 7;handler;}", "semaphore s 3:4;", "event e;", "buffer b 5;",
            "board w;", "port o out queuing;", "errors{raised:handle;}");
        for (String order : orders(things)) {
            ConfigTexts x = CHECK.loaded("partition a{memory 512;" + order + "}frame{a 1;}");
            CHECK.row(order, what -> x.partition(0, what), 512, 1, 1, 1, 1, 1, 1, 0, 0, 0, 0, 6);
            CHECK.same(order, x.process(0, 0, 1) + x.thing(0, 0, 0, 0) + x.thing(0, 1, 0, 0) + x.thing(0, 2, 0, 1), 7 + 3 + 5 + 1);
        }
    }

    private static void kindsInAnyOrder() {
        CHECK.sentence("KIND illegal, memory, late or raised (each at most once, in any order)");
        for (String order : orders(List.of("illegal:stop;", "memory:again;", "late:warm;", "raised:cold;"))) {
            ConfigTexts x = CHECK.loaded("partition a{memory 256;errors{" + order + "}}frame{a 1;}");
            CHECK.row(order, k -> x.partition(0, 8 + k), 1, 2, 3, 4);
        }
    }

    private static void settingsInTheirOrder() {
        CHECK.sentence("and then, each perhaps, in this order: period N ; deadline N ; handler ; stopped ;");
        String[] settings = {"period 5;", "deadline 6;", "handler;", "stopped;"};
        String head = "process p{entry 0;priority 0;";
        for (int first = 0; first < settings.length; first++) {
            for (int second = 0; second < settings.length; second++) {
                if (first < second) {
                    CHECK.fineInside(head + settings[first] + settings[second] + "}");
                } else {
                    CHECK.faultInside(1, head + settings[first] + "^" + settings[second] + "}");
                }
            }
        }
        CHECK.faultInside(1, "process p{^priority 0;entry 0;}");
        CHECK.faultInside(1, "process p{entry 0;^period 1;}");
        CHECK.faultInside(1, "process p{entry 0;priority 0;^priority 0;}");
    }

    private static void partitionsThenChannelsThenFrame() {
        CHECK.sentence("PARTITIONS (1 to 8), then CHANNELS (none to 16), then the FRAME");
        String partition = "partition a{memory 256;}";
        String channel = "channel sampling 0{input>output}";
        String frame = "frame{a 1;}";
        CHECK.fine(partition + channel + frame);
        CHECK.fault(1, "^" + channel + partition + frame);
        CHECK.fault(1, "^" + frame + partition + channel);
        CHECK.fault(1, partition + frame + "^" + channel);
        CHECK.fault(1, partition + frame + "^" + frame);
        CHECK.fault(1, partition + frame + "^partition b{memory 256;}");
        CHECK.fault(1, partition + channel + "^partition b{memory 256;}" + frame);
        CHECK.fault(1, partition + channel + "^");
        CHECK.fault(1, partition + "^");
    }
}
