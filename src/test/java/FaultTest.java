/** Promise 4: fault. */
public final class FaultTest {
    private static final Check CHECK = new Check();

    public static void main(String[] args) {
        with();
        without();
        ofTheLatestLoad();
        anotherWhat();
        places();
        CHECK.end();
    }

    private static void with() {
        CHECK.sentence("the FAULT (what = 0), its place (1)");
        ConfigTexts x = new ConfigTexts();
        CHECK.same("load()", Check.load(x, "partition a { memory 300; }"), Check.THROWN);
        CHECK.row("fault", x::fault, 5, 21, -1);
        CHECK.row("fault asked again", x::fault, 5, 21, -1);
    }

    private static void without() {
        CHECK.sentence("the FAULT, 0 without (what = 0), its place (1; NONE without)");
        CHECK.row("fault of a new object", new ConfigTexts()::fault, 0, -1, -1);
        CHECK.row("fault of a whole text", CHECK.loaded(Check.FULL)::fault, 0, -1, -1);
    }

    private static void ofTheLatestLoad() {
        CHECK.sentence("Of the latest load()");
        ConfigTexts x = new ConfigTexts();
        Check.load(x, "partition a { memory 300; }");
        Check.put(x, Check.FULL);
        x.put(0, 9);
        CHECK.row("fault behind put", x::fault, 5, 21);
        CHECK.same("load()", Check.load(x), 2);
        CHECK.row("fault of a whole text", x::fault, 0, -1);
        Check.load(x, " #");
        CHECK.row("fault of the third", x::fault, 2, 1);
        Check.load(x);
        CHECK.row("fault of the fourth", x::fault, 1, 0);
    }

    private static void anotherWhat() {
        CHECK.sentence("NONE for another what");
        ConfigTexts faulty = new ConfigTexts();
        Check.load(faulty, "#");
        CHECK.noneBeyond("fault of a new object", 2, new ConfigTexts()::fault);
        CHECK.noneBeyond("fault of a whole text", 2, CHECK.loaded(Check.SMALL)::fault);
        CHECK.noneBeyond("fault of a fault", 2, faulty::fault);
    }

    private static void places() {
        CHECK.sentence("its PLACE, a byte: the first is 0, the last 1999, and the end of 2000 is 2000");
        CHECK.faultAt(2, 0, "#" + " ".repeat(1999));
        CHECK.faultAt(2, 1, " #" + " ".repeat(1998));
        CHECK.faultAt(2, 1998, " ".repeat(1998) + "##");
        CHECK.faultAt(2, 1999, " ".repeat(1999) + "#");
        CHECK.faultAt(1, 1999, " ".repeat(1999));
        CHECK.faultAt(1, 2000, " ".repeat(2000));
        CHECK.faultAt(1, 2000, " ".repeat(1991) + "partition");
        CHECK.faultAt(1, 1992, " ".repeat(1992) + "partitio");
    }
}
