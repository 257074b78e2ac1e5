/** Promises 6 to 14: ship, person, berth, load, lead, word, undo, span, liars. */
public final class EventsTest {
    private static final Check CHECK = new Check();
    private static final int NONE = SoundHarbour.NONE;

    public static void main(String[] args) {
        ships();
        persons();
        berths();
        loads();
        leads();
        words();
        eightyEvents();
        undoing();
        spans();
        liars();
        CHECK.end();
    }

    private static void ships() {
        SoundHarbour x = Check.harbour("ship 5 10 3 4 sink 2;person;person;");
        int[] due = {5, 10, 3, 4, 2, 0, 5, 10};
        for (int what = 0; what < 8; what++) {
            CHECK.is("ship(0, " + what + ")", x.ship(0, what), due[what]);
        }
        x.lead(0, 0, 7, true);
        x.lead(1, 0, 9, false);
        x.word(0, 1, 0, 8, true, 0);
        CHECK.is("least true keel", x.ship(0, 6), 7);
        CHECK.is("greatest true keel", x.ship(0, 7), 8);
        CHECK.noSuch("ship(1, 0)", () -> x.ship(1, 0));
        CHECK.noSuch("ship(-1, 0)", () -> x.ship(-1, 0));
        CHECK.noSuch("ship(0, 8)", () -> x.ship(0, 8));
        CHECK.noSuch("ship(0, -1)", () -> x.ship(0, -1));
    }

    private static void persons() {
        SoundHarbour x = Check.harbour("fee 7;ship 5 10 0 1;ship 5 10 0 1;person;person;person;");
        x.lead(0, 0, 7, true);
        x.lead(0, 1, 7, true);
        x.lead(1, 0, 7, true);
        x.word(0, 1, 0, 8, true, 50);
        x.word(0, 2, 0, 8, true, 10);
        x.word(1, 0, 0, 8, true, 999);
        int[][] due = {{14 + 999, 60, 2, 2, 1}, {7 + 50, 999, 1, 1, 1}, {10, 0, 0, 0, 1}};
        for (int person = 0; person < 3; person++) {
            for (int what = 0; what < 5; what++) {
                CHECK.is("person(" + person + ", " + what + ")", x.person(person, what), due[person][what]);
            }
        }
        x.undo();
        CHECK.is("paid behind undo()", x.person(0, 0), 14);
        CHECK.noSuch("person(3, 0)", () -> x.person(3, 0));
        CHECK.noSuch("person(-1, 0)", () -> x.person(-1, 0));
        CHECK.noSuch("person(0, 5)", () -> x.person(0, 5));
        CHECK.noSuch("person(0, -1)", () -> x.person(0, -1));
    }

    private static void berths() {
        SoundHarbour x = Check.harbour("tide 13;stone 10 silt 3;mud 10 silt 9;dock 10 silt 1;");
        int[] tides = {0, 2, 4, 6, 8, 10, 13, 10, 8, 6, 4, 2};
        for (int hour = 0; hour < 100; hour++) {
            CHECK.is("stone in hour " + hour, x.berth(0, hour, 0), 10 + tides[hour % 12]);
            CHECK.is("mud in hour " + hour, x.berth(1, hour, 0), 12 + tides[hour % 12]);
            CHECK.is("dock in hour " + hour, x.berth(2, hour, 0), 23);
        }
        CHECK.is("silt of 3 days", x.berth(0, 0, 3), 10);
        CHECK.is("silt of 4 days", x.berth(0, 0, 4), 9);
        CHECK.is("silt of 33 days", x.berth(0, 0, 33), 1);
        CHECK.is("silt of 34 days", x.berth(0, 0, 34), 0);
        CHECK.is("no less than 0", x.berth(0, 0, 9999), 0);
        CHECK.is("mud has 2 above the bottom", x.berth(1, 3, 9999), 8);
        CHECK.is("a dock keeps the tide", x.berth(2, 0, 9999), 13);
        CHECK.noSuch("berth(3, 0, 0)", () -> x.berth(3, 0, 0));
        CHECK.noSuch("berth(-1, 0, 0)", () -> x.berth(-1, 0, 0));
        CHECK.noSuch("hour 100", () -> x.berth(0, 100, 0));
        CHECK.noSuch("hour -1", () -> x.berth(0, -1, 0));
        CHECK.noSuch("day 10000", () -> x.berth(0, 0, 10000));
        CHECK.noSuch("day -1", () -> x.berth(0, 0, -1));
    }

    private static void loads() {
        SoundHarbour x = Check.harbour("ship 5 5 0 1 sink 2;person;stone 9;");
        CHECK.is("load 39", x.load(0, 39), true);
        CHECK.is("LOAD", x.ship(0, 5), 39);
        CHECK.is("2 less than the berth has", x.safe(0, 0, 0, 0, 0, 0), false);
        x.load(0, 29);
        CHECK.is("as much as the berth has", x.safe(0, 0, 0, 0, 0, 0), true);
        CHECK.is("load 100", x.load(0, 100), false);
        CHECK.is("load -1", x.load(0, -1), false);
        CHECK.is("LOAD stays", x.ship(0, 5), 29);
        CHECK.is("load 99", x.load(0, 99), true);
        CHECK.is("load 0", x.load(0, 0), true);
        for (int what = 9; what <= 11; what++) {
            CHECK.is("a load is no event: count(" + what + ")", x.count(what), 0);
        }
        CHECK.noSuch("load of no ship", () -> x.load(1, 100));
        CHECK.noSuch("load of no ship", () -> x.load(-1, 0));
    }

    private static void leads() {
        SoundHarbour x = Check.harbour("ship 5 10 0 1;ship 0 60 0 1;person;person;person;");
        CHECK.is("depth 0", x.lead(0, 0, 0, true), NONE);
        CHECK.is("depth 61", x.lead(0, 0, 61, false), NONE);
        CHECK.is("touches at 11", x.lead(0, 0, 11, true), NONE);
        CHECK.is("doesn't touch at 5", x.lead(0, 0, 5, false), NONE);
        CHECK.is("STATUS", x.count(10), 4);
        CHECK.is("touches at 8", x.lead(0, 0, 8, true), 1);
        CHECK.is("a second one beside the ship", x.lead(0, 0, 9, true), NONE);
        CHECK.is("against another's lead", x.lead(1, 0, 8, false), NONE);
        CHECK.is("doesn't touch at 9", x.lead(1, 0, 9, false), 2);
        CHECK.is("one keel is left", x.ship(0, 6) * 100 + x.ship(0, 7), 808);
        CHECK.is("against both", x.lead(2, 0, 9, true), NONE);
        CHECK.is("touches at 60", x.lead(0, 1, 60, true), 3);
        CHECK.is("doesn't touch at 1", x.lead(1, 1, 1, false), NONE);
        CHECK.is("STATUS", x.count(10), 8);
        CHECK.is("EVENTS", x.count(7), 3);
        x.word(1, 2, 0, 60, true, 0);
        CHECK.is("words don't keep a lead out", x.lead(2, 0, 8, true), 5);
        CHECK.noSuch("no person", () -> x.lead(3, 0, 0, true));
        CHECK.noSuch("no person", () -> x.lead(-1, 0, 1, true));
        CHECK.noSuch("no ship", () -> x.lead(0, 2, 0, true));
        CHECK.noSuch("no ship", () -> x.lead(0, -1, 1, true));
        CHECK.is("STATUS behind exceptions", x.count(10), 8);
        SoundHarbour y = Check.harbour("ship 0 60 0 1;person;");
        CHECK.is("doesn't touch at 1", y.lead(0, 0, 1, false), 1);
        CHECK.is("the keel is 0", y.ship(0, 7), 0);
    }

    private static void words() {
        SoundHarbour x = Check.harbour("ship 5 10 0 1;person;person;");
        CHECK.is("a word", x.word(0, 1, 0, 8, true, 0), 1);
        CHECK.is("a word against it", x.word(0, 1, 0, 8, false, 999), 2);
        CHECK.is("a word that no keel bears", x.word(1, 0, 0, 60, true, 5), 3);
        CHECK.is("the same once more", x.word(1, 0, 0, 60, true, 5), 4);
        CHECK.is("to himself", x.word(1, 1, 0, 8, true, 5), NONE);
        CHECK.is("price -1", x.word(0, 1, 0, 8, true, -1), NONE);
        CHECK.is("price 1000", x.word(0, 1, 0, 8, true, 1000), NONE);
        CHECK.is("depth 0", x.word(0, 1, 0, 0, true, 5), NONE);
        CHECK.is("depth 61", x.word(0, 1, 0, 61, true, 5), NONE);
        CHECK.is("STATUS", x.count(10), 5);
        CHECK.is("EVENTS", x.count(7), 4);
        CHECK.is("THE TRUE SPAN", x.ship(0, 7) - x.ship(0, 6), 5);
        CHECK.noSuch("no seller", () -> x.word(2, 1, 0, 8, true, 5));
        CHECK.noSuch("no seller", () -> x.word(-1, 1, 0, 8, true, 5));
        CHECK.noSuch("no buyer", () -> x.word(0, 2, 0, 8, true, -1));
        CHECK.noSuch("no buyer", () -> x.word(0, -1, 0, 8, true, 5));
        CHECK.noSuch("no ship", () -> x.word(0, 0, 1, 8, true, 5));
        CHECK.is("STATUS behind exceptions", x.count(10), 5);
    }

    private static void eightyEvents() {
        SoundHarbour x = Check.harbour("ship 5 10 0 1;person;person;stone 8;");
        for (int i = 1; i <= 80; i++) {
            CHECK.is("word " + i, x.word(i % 2, 1 - i % 2, 0, 7, true, 1), i);
        }
        CHECK.is("the 81st word", x.word(0, 1, 0, 7, true, 1), NONE);
        CHECK.is("the 81st event, a lead", x.lead(0, 0, 7, true), NONE);
        CHECK.is("STATUS", x.count(10), 2);
        CHECK.is("undo()", x.undo(), 79);
        CHECK.is("the 80th event, a lead", x.lead(0, 0, 7, true), 80);
        CHECK.is("EVENTS", x.count(7), 80);
        CHECK.is("span behind 80", x.span(0, 0, 80, 0), 7);
        CHECK.illegal("span behind 81", () -> x.span(0, 0, 81, 0));
        CHECK.is("bought and lowered", x.person(0, 0), 40);
        x.image();
        x.undo();
        x.undo();
        x.word(0, 1, 0, 9, false, 0);
        x.word(0, 1, 0, 10, true, 0);
        CHECK.is("an image of 80 events", x.restore(), true);
        CHECK.is("his span again", x.span(1, 0, 80, 1), 10);
        x.undo();
        x.word(1, 0, 0, 9, false, 0);
        CHECK.is("aground by the 80th word", x.aground(0, 0, 0, 0, 10, 80), 11);
        CHECK.is("liars", x.liars(), 0);
    }

    private static void undoing() {
        SoundHarbour x = Check.harbour("ship 5 10 0 1;person;person;");
        x.lead(0, 0, 8, true);
        x.word(0, 1, 0, 9, true, 5);
        CHECK.is("undo()", x.undo(), 1);
        CHECK.is("span of the buyer", x.span(1, 0, 1, 0), 5);
        CHECK.is("undo()", x.undo(), 0);
        CHECK.is("undo() of nothing", x.undo(), NONE);
        CHECK.is("STATUS", x.count(10), 0);
        CHECK.is("he may lower it again", x.lead(0, 0, 8, false), 1);
        CHECK.is("THE TRUE SPAN", x.ship(0, 7), 7);
    }

    private static void span(SoundHarbour x, int person, int time, int least, int greatest, int size) {
        String call = "span(" + person + ", 0, " + time + ", ";
        CHECK.is(call + "0)", x.span(person, 0, time, 0), least);
        CHECK.is(call + "1)", x.span(person, 0, time, 1), greatest);
        CHECK.is(call + "2)", x.span(person, 0, time, 2), size);
    }

    private static void spans() {
        SoundHarbour x = Check.harbour("ship 5 10 0 1;ship 0 60 0 1;person;person;person;");
        x.lead(0, 0, 7, true);
        x.word(0, 1, 0, 9, false, 5);
        x.word(0, 1, 1, 50, false, 5);
        x.word(2, 1, 0, 9, true, 5);
        span(x, 0, 0, 5, 10, 6);
        span(x, 0, 1, 7, 10, 4);
        span(x, 0, 4, 7, 10, 4);
        span(x, 1, 1, 5, 10, 6);
        span(x, 1, 2, 5, 8, 4);
        span(x, 1, 3, 5, 8, 4);
        span(x, 1, 4, NONE, NONE, 0);
        span(x, 2, 4, 5, 10, 6);
        CHECK.is("the other ship", x.span(1, 1, 3, 1), 49);
        CHECK.illegal("time 5", () -> x.span(0, 0, 5, 0));
        CHECK.illegal("time -1", () -> x.span(0, 0, -1, 0));
        CHECK.noSuch("what 3", () -> x.span(0, 0, 0, 3));
        CHECK.noSuch("what -1, time -1", () -> x.span(0, 0, -1, -1));
        CHECK.noSuch("no person, time 5", () -> x.span(3, 0, 5, 0));
        CHECK.noSuch("no ship, time 5", () -> x.span(0, 2, 5, 0));
    }

    private static void liars() {
        SoundHarbour x = Check.harbour("ship 5 10 0 1;ship 5 10 0 1;person;person;person;person;");
        CHECK.is("nobody said a word", x.liars(), 0);
        x.word(0, 1, 0, 9, true, 5);
        x.word(1, 0, 0, 9, true, 5);
        CHECK.is("all agree", x.liars(), 0);
        x.word(2, 0, 0, 9, false, 5);
        CHECK.is("one against two", x.liars(), 4);
        x.word(3, 0, 0, 8, false, 5);
        CHECK.is("two against two, the least as bits", x.liars(), 3);
        x.lead(0, 0, 9, true);
        CHECK.is("a lead decides", x.liars(), 12);
        x.undo();
        x.word(1, 2, 1, 11, true, 5);
        CHECK.is("who lies of another ship", x.liars(), 3);
        x.word(0, 2, 1, 5, false, 5);
        x.word(2, 0, 1, 5, false, 5);
        x.word(3, 0, 1, 5, false, 5);
        CHECK.is("all lie", x.liars(), 15);
    }
}
