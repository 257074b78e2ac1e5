/** Promises 24 to 27: name, names, image, restore. */
public final class NamesTest {
    private static final Check CHECK = new Check();
    private static final int NONE = SoundHarbour.NONE;

    public static void main(String[] args) {
        telling();
        rows();
        rowsByLeads();
        images();
        imagesKeepAll();
        CHECK.end();
    }

    private static void telling() {
        SoundHarbour x = Check.harbour("ship 5 10 0 1;ship 20 30 0 1;person;");
        CHECK.is("0 to 60", x.name(0, 0, 60), true);
        CHECK.is("60 to 60", x.name(1, 60, 60), true);
        CHECK.is("-1 to 5", x.name(0, -1, 5), false);
        CHECK.is("5 to 61", x.name(0, 5, 61), false);
        CHECK.is("61 to 61", x.name(0, 61, 61), false);
        CHECK.is("5 to 4", x.name(0, 5, 4), false);
        CHECK.is("0 to -1", x.name(0, 0, -1), false);
        CHECK.is("STATUS", x.count(11), 5);
        CHECK.is("STATUS of others", x.count(9) + x.count(10), 0);
        CHECK.noSuch("no name", () -> x.name(2, 5, 4));
        CHECK.noSuch("no name", () -> x.name(-1, 0, 1));
        CHECK.is("STATUS behind exceptions", x.count(11), 5);
    }

    private static void rows() {
        SoundHarbour x = Check.harbour("ship 5 10 0 1;ship 20 30 0 1;ship 8 25 0 1;");
        CHECK.is("all rows", x.names(NONE), 6);
        CHECK.is("all ships", x.names(1), 7);
        x.name(0, 0, 7);
        CHECK.is("the first is ship 0", x.names(NONE), 2);
        CHECK.is("the first is ship 0", x.names(0), 1);
        CHECK.is("the others", x.names(2), 6);
        x.name(1, 25, 25);
        CHECK.is("its edge meets both", x.names(NONE), 2);
        x.name(1, 26, 30);
        CHECK.is("one row", x.names(NONE), 1);
        CHECK.is("name 1", x.names(1), 2);
        CHECK.is("name 2", x.names(2), 4);
        x.name(2, 0, 7);
        CHECK.is("no row", x.names(NONE), 0);
        CHECK.is("no ship", x.names(0), 0);
        CHECK.noSuch("names(3)", () -> x.names(3));
        CHECK.noSuch("names(-2)", () -> x.names(-2));
        SoundHarbour zero = Check.harbour("ship 0 0 0 1;ship 60 60 0 1;");
        CHECK.is("at first 0 to 60", zero.names(NONE), 2);
        SoundHarbour five = Check.harbour("ship 0 60 0 1;".repeat(5));
        CHECK.is("120 rows", five.names(NONE), 120);
        CHECK.is("five ships", five.names(4), 31);
    }

    private static void rowsByLeads() {
        SoundHarbour x = Check.harbour("ship 5 10 0 1;ship 5 10 0 1;person;person;");
        x.name(0, 5, 7);
        CHECK.is("both rows", x.names(NONE), 2);
        x.word(0, 1, 0, 8, true, 0);
        CHECK.is("a word is nothing", x.names(NONE), 2);
        x.lead(0, 0, 8, true);
        CHECK.is("a lead is", x.names(NONE), 1);
        CHECK.is("name 0", x.names(0), 2);
        CHECK.is("name 1", x.names(1), 1);
        x.undo();
        CHECK.is("both again", x.names(NONE), 2);
    }

    private static void images() {
        SoundHarbour x = Check.harbour("ship 5 10 0 1;person;person;");
        CHECK.is("no image", x.restore(), false);
        x.image();
        x.lead(0, 0, 7, true);
        CHECK.is("restore()", x.restore(), true);
        CHECK.is("EVENTS", x.count(7), 0);
        x.lead(1, 0, 9, true);
        x.image();
        x.undo();
        x.lead(1, 0, 6, false);
        CHECK.is("restore() of the second", x.restore(), true);
        CHECK.is("THE TRUE SPAN", x.ship(0, 6), 9);
        x.undo();
        CHECK.is("restore() once more", x.restore(), true);
        CHECK.is("THE TRUE SPAN", x.ship(0, 6), 9);
        CHECK.is("EVENTS", x.count(7), 1);
        CHECK.is("a new harbour", Check.tell(x, "person;"), 0);
        CHECK.is("the image is gone", x.restore(), false);
    }

    private static void imagesKeepAll() {
        SoundHarbour x = Check.harbour("fee 3;ship 5 10 0 1;ship 5 10 0 1;person;person;");
        Check.tell(x, "x");
        x.load(1, 30);
        x.name(0, 5, 7);
        x.name(0, 7, 5);
        x.lead(0, 0, 8, true);
        x.lead(0, 0, 8, true);
        x.word(0, 1, 1, 9, false, 4);
        x.image();
        Check.tell(x, "y");
        x.load(1, 50);
        x.load(0, 60);
        x.name(0, 0, 60);
        x.name(0, 7, 5);
        x.undo();
        x.word(1, 0, 0, 6, true, 8);
        x.word(1, 1, 0, 6, true, 8);
        Check.feed(x, "person;");
        CHECK.is("restore()", x.restore(), true);
        CHECK.is("LOAD 0", x.ship(0, 5), 0);
        CHECK.is("LOAD 1", x.ship(1, 5), 30);
        CHECK.is("EVENTS", x.count(7), 2);
        for (int what = 9; what <= 11; what++) {
            CHECK.is("count(" + what + ")", x.count(what), 1);
        }
        CHECK.is("NAMES", x.names(0), 2);
        x.name(1, 6, 9);
        x.name(0, 6, 6);
        x.image();
        x.name(0, 0, 6);
        x.name(1, 6, 60);
        x.restore();
        x.lead(1, 1, 6, false);
        CHECK.is("where a NAME begins", x.names(NONE), 0);
        x.undo();
        CHECK.is("NAMES as before", x.names(NONE), 1);
        CHECK.is("paid", x.person(1, 0), 4);
        CHECK.is("was paid", x.person(0, 1), 4);
        CHECK.is("the word", x.span(1, 1, 2, 1), 8);
        CHECK.is("the tape is not kept", x.count(8), 20);
        CHECK.is("nor is the fault's place", x.fault(), 0);
    }
}
