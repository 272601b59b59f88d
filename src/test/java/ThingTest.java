/** Promise 8: thing. */
public final class ThingTest {
    private static final Check CHECK = new Check();

    public static void main(String[] args) {
        semaphores();
        buffers();
        ports();
        channelsOfPorts();
        numberedByOrder();
        noSuchNumber();
        noSuchThing();
        noSuchSort();
        noSuchPartition();
        CHECK.end();
    }

    private static void row(String what, ConfigTexts x, int partition, int sort, int k, int... due) {
        CHECK.row(what, n -> x.thing(partition, sort, k, n), due);
    }

    private static void semaphores() {
        CHECK.sentence("0 semaphore: its count, most");
        ConfigTexts x = CHECK.loaded(Check.FULL);
        row("semaphore 0", x, 0, 0, 0, 2, 9, -1, -1);
        row("semaphore 1", x, 0, 0, 1, 0, 1, -1, -1);
        x = CHECK.loaded("partition a{memory 256;semaphore s 100:100;semaphore t 1:1;semaphore u 0:100;}frame{a 1;}");
        row("greatest", x, 0, 0, 0, 100, 100, -1, -1);
        row("alike", x, 0, 0, 1, 1, 1, -1, -1);
        row("least and greatest", x, 0, 0, 2, 0, 100, -1, -1);
    }

    private static void buffers() {
        CHECK.sentence("1 buffer: words");
        ConfigTexts x = CHECK.loaded(Check.FULL);
        row("buffer 0", x, 0, 1, 0, 1, -1, -1, -1);
        row("buffer 1", x, 0, 1, 1, 8, -1, -1, -1);
    }

    private static void ports() {
        CHECK.sentence("2 port: 1 if out, else 0, 1 if queuing, else 0, its channel or NONE");
        String text = "partition a{memory 256;port a in sampling;port b in queuing;port c out sampling;port d out queuing;}";
        ConfigTexts x = CHECK.loaded(text + "frame{a 1;}");
        row("in sampling", x, 0, 2, 0, 0, 0, -1, -1);
        row("in queuing", x, 0, 2, 1, 0, 1, -1, -1);
        row("out sampling", x, 0, 2, 2, 1, 0, -1, -1);
        row("out queuing", x, 0, 2, 3, 1, 1, -1, -1);
        x = CHECK.loaded(text + "channel queuing 1{a.d>a.b}channel sampling 0{a.c>output,a.a}frame{a 1;}");
        row("in sampling", x, 0, 2, 0, 0, 0, 1, -1);
        row("in queuing", x, 0, 2, 1, 0, 1, 0, -1);
        row("out sampling", x, 0, 2, 2, 1, 0, 1, -1);
        row("out queuing", x, 0, 2, 3, 1, 1, 0, -1);
    }

    private static void channelsOfPorts() {
        CHECK.sentence("its channel or NONE: the first, the last, one of the load before");
        String head = "partition a{memory 256;port x out sampling;port y in sampling;port z in queuing;}";
        String text = head + "channel sampling 0{a.x>output}" + Check.times(14, "channel sampling 0{input>output}")
            + "channel sampling 0{input>output,output,output,a.y}frame{a 1;}";
        ConfigTexts x = CHECK.loaded(text);
        row("source of channel 0", x, 0, 2, 0, 1, 0, 0, -1);
        row("last goal of channel 15", x, 0, 2, 1, 0, 0, 15, -1);
        row("free", x, 0, 2, 2, 0, 1, -1, -1);
        Check.load(x, head + "frame{a 1;}");
        row("free now", x, 0, 2, 0, 1, 0, -1, -1);
        row("free now", x, 0, 2, 1, 0, 0, -1, -1);
    }

    private static void numberedByOrder() {
        CHECK.sentence("All are numbered by their order, from 0 on: things of one sort in a partition");
        String text = "partition a{memory 256;" + Check.times(4, "board w#;semaphore s# #:9;port p# in queuing;buffer b# 1;")
            + Check.times(4, "port q# out sampling;event e#;")
            + "}partition b{memory 256;buffer b 7;semaphore s 8:8;port p out queuing;}frame{a 1;}";
        ConfigTexts x = CHECK.loaded(text);
        CHECK.row("count of semaphore", k -> x.thing(0, 0, k, 0), 0, 1, 2, 3, -1);
        CHECK.row("words of buffer", k -> x.thing(0, 1, k, 0), 1, 1, 1, 1, -1);
        CHECK.row("out of port", k -> x.thing(0, 2, k, 0), 0, 0, 0, 0, 1, 1, 1, 1, -1);
        CHECK.row("queuing of port", k -> x.thing(0, 2, k, 1), 1, 1, 1, 1, 0, 0, 0, 0, -1);
        CHECK.row("count of semaphore in 1", k -> x.thing(1, 0, k, 0), 8, -1);
        CHECK.row("words of buffer in 1", k -> x.thing(1, 1, k, 0), 7, -1);
        CHECK.row("out of port in 1", k -> x.thing(1, 2, k, 0), 1, -1);
    }

    private static void noSuchNumber() {
        CHECK.sentence("number what, from 0 on, of those that are told here");
        ConfigTexts x = CHECK.loaded(Check.FULL);
        for (int k = 0; k < 2; k++) {
            int thing = k;
            CHECK.noneBeyond("semaphore, what", 2, what -> x.thing(0, 0, thing, what));
            CHECK.noneBeyond("buffer, what", 1, what -> x.thing(0, 1, thing, what));
            CHECK.noneBeyond("port, what", 3, what -> x.thing(0, 2, thing, what));
        }
    }

    private static void noSuchThing() {
        CHECK.sentence("NONE if there is none such: thing k");
        ConfigTexts x = CHECK.loaded(Check.FULL);
        CHECK.noneBeyond("semaphore ?", 2, k -> x.thing(0, 0, k, 0));
        CHECK.noneBeyond("buffer ?", 2, k -> x.thing(0, 1, k, 0));
        CHECK.noneBeyond("port ?", 3, k -> x.thing(0, 2, k, 0));
        CHECK.noneBeyond("semaphore ? where none is", 0, k -> x.thing(1, 0, k, 1));
        CHECK.noneBeyond("buffer ? where none is", 0, k -> x.thing(1, 1, k, 0));
        String full = "partition a{memory 256;" + Check.times(4, "semaphore s# 0:1;buffer b# 1;")
            + Check.times(8, "port p# in queuing;") + "}frame{a 1;}";
        ConfigTexts y = CHECK.loaded(full);
        CHECK.noneBeyond("semaphore ? of four", 4, k -> y.thing(0, 0, k, 0));
        CHECK.noneBeyond("buffer ? of four", 4, k -> y.thing(0, 1, k, 0));
        CHECK.noneBeyond("port ? of eight", 8, k -> y.thing(0, 2, k, 0));
    }

    private static void noSuchSort() {
        CHECK.sentence("NONE if there is none such: a sort");
        String one = "process p{entry 0;priority 0;}event e;board w;semaphore s 0:1;buffer b 1;port q in queuing;";
        ConfigTexts x = CHECK.loaded("partition a{memory 256;" + one + "}frame{a 1;}");
        CHECK.noneBeyond("sort ?", 3, sort -> x.thing(0, sort, 0, 0));
        for (int sort = 3; sort < 8; sort++) {
            row("sort " + sort, x, 0, sort, 0, -1, -1, -1, -1);
        }
    }

    private static void noSuchPartition() {
        CHECK.sentence("NONE if there is none such: a partition");
        ConfigTexts x = CHECK.loaded(Check.FULL);
        for (int sort = 0; sort < 3; sort++) {
            int of = sort;
            CHECK.noneBeyond("partition ?, sort " + sort, 2, k -> x.thing(k, of, 0, 0));
        }
        Check.load(x, "#");
        CHECK.noneBeyond("partition ? without a configuration", 0, k -> x.thing(k, 2, 0, 0));
    }
}
