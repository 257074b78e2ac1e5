/** Promises 1 to 5: a new object, feed, harbour, fault, count. */
public final class TextTest {
    private static final Check CHECK = new Check();

    public static void main(String[] args) {
        aNewObject();
        feeding();
        whatATextTells();
        faultsOfTokens();
        faultsOfNumbers();
        faultsOfTooMany();
        aFaultChangesNothing();
        aHarbourBeginsAnew();
        wrongLengths();
        counts();
        CHECK.end();
    }

    private static void aNewObject() {
        SoundHarbour x = new SoundHarbour();
        for (int what = 0; what <= 11; what++) {
            CHECK.is("new count(" + what + ")", x.count(what), 0);
        }
        CHECK.is("new fault()", x.fault(), SoundHarbour.NONE);
        CHECK.is("new liars()", x.liars(), 0);
        CHECK.is("new undo()", x.undo(), SoundHarbour.NONE);
        CHECK.is("new restore()", x.restore(), false);
        CHECK.is("new names(NONE)", x.names(SoundHarbour.NONE), 1);
        CHECK.noSuch("new names(0)", () -> x.names(0));
        CHECK.noSuch("new ship(0, 0)", () -> x.ship(0, 0));
        CHECK.noSuch("new person(0, 0)", () -> x.person(0, 0));
        CHECK.noSuch("new berth(0, 0, 0)", () -> x.berth(0, 0, 0));
        CHECK.noSuch("new row(0, 0)", () -> x.row(0, 0));
        CHECK.is("NONE", SoundHarbour.NONE, -1);
    }

    private static void feeding() {
        SoundHarbour x = new SoundHarbour();
        int blanks = 0x20202020;
        for (int i = 1; i <= 25; i++) {
            CHECK.is("feed " + i, x.feed(blanks, blanks, blanks, blanks, blanks), 20 * i);
        }
        CHECK.is("feed above 500", x.feed(blanks, blanks, blanks, blanks, blanks), SoundHarbour.NONE);
        CHECK.is("count(8) of a full tape", x.count(8), 500);
        CHECK.is("500 blanks", x.harbour(500), 0);
        CHECK.is("count(8) behind harbour()", x.count(8), 0);
        // "pers" "on;p" "erso" "n;mu" "d 7;", and one byte above 127 behind it
        CHECK.is("feed", x.feed(0x70657273, 0x6f6e3b70, 0x6572736f, 0x6e3b6d75, 0x6420373b), 20);
        CHECK.is("feed", x.feed(0xff202020, blanks, blanks, blanks, blanks), 40);
        CHECK.is("harbour(20) of 40", x.harbour(20), 0);
        CHECK.is("persons", x.count(1), 2);
        CHECK.is("berths", x.count(2), 1);
        CHECK.is("the whole tape is gone", x.count(8), 0);
        x.feed(0xff202020, blanks, blanks, blanks, blanks);
        CHECK.is("a byte above 127", x.harbour(20), 1);
        CHECK.is("its place", x.fault(), 0);
    }

    private static void whatATextTells() {
        SoundHarbour x = Check.harbour("ship5 60 23 12sink 9;ship 000 0 0 1\n;person;stone 99 silt9;mud 0;"
                + " dock 40 silt 0 ; tide 40;clear 20;wait 2;fee 999;");
        int[] due = {2, 1, 3, 40, 20, 2, 999, 0, 0, 0, 0, 0};
        for (int what = 0; what < due.length; what++) {
            CHECK.is("count(" + what + ")", x.count(what), due[what]);
        }
        int[] first = {5, 60, 23, 12, 9, 0, 5, 60};
        int[] second = {0, 0, 0, 1, 0, 0, 0, 0};
        for (int what = 0; what < 8; what++) {
            CHECK.is("ship(0, " + what + ")", x.ship(0, what), first[what]);
            CHECK.is("ship(1, " + what + ")", x.ship(1, what), second[what]);
        }
        CHECK.is("a text of lines without settings", Check.tell(x, "person;"), 0);
        for (int what = 0; what < 7; what++) {
            CHECK.is("count(" + what + ") of it", x.count(what), what == 1 ? 1 : 0);
        }
        CHECK.is("without sink and silt", Check.tell(x, "ship 1 2 3 4;stone 9;"), 0);
        CHECK.is("SINK of the text before is gone", x.ship(0, 4), 0);
        CHECK.is("SILT of the text before is gone", x.berth(0, 0, 9999), 9);
        CHECK.is("sink 0, silt 0", Check.tell(x, "ship 1 2 3 4 sink 0;stone 9 silt 0;"), 0);
        CHECK.is("an empty text", x.harbour(0), 0);
        CHECK.is("nobody is there", x.count(1), 0);
    }

    private static void fault(String text, int kind, int place) {
        SoundHarbour x = new SoundHarbour();
        CHECK.is("harbour of '" + text + "'", Check.tell(x, text), kind);
        CHECK.is("fault of '" + text + "'", x.fault(), place);
        CHECK.is("STATUS of '" + text + "'", x.count(9), kind == 0 ? 0 : 1);
    }

    private static void faultsOfTokens() {
        fault("", 0, -1);
        fault(" \n ", 0, -1);
        fault("x", 1, 0);
        fault(" persons;", 1, 1);
        fault("Person;", 1, 0);
        fault("perso", 1, 0);
        fault("person", 1, 6);
        fault("person  ", 1, 8);
        fault("person;;", 1, 7);
        fault(";", 1, 0);
        fault("12;", 1, 0);
        fault("1234;", 1, 0);
        fault("person 1;", 1, 7);
        fault("person\t;", 1, 6);
        fault("ship;", 1, 4);
        fault("ship 1 2 3;", 1, 10);
        fault("ship 1 2 3 4 5;", 1, 13);
        fault("ship 1 2 3 4 silt 5;", 1, 13);
        fault("ship 1 2 3 4 sink;", 1, 17);
        fault("ship 1 2 3 4 sink 5 sink 5;", 1, 20);
        fault("ship 1 2 3 4 ship", 1, 13);
        fault("ship 1 2 3 4", 1, 12);
        fault("stone;", 1, 5);
        fault("stone 5 sink 5;", 1, 8);
        fault("stone 5 silt 5 silt 5;", 1, 15);
        fault("mud -5;", 1, 4);
        fault("tide 5 5;", 1, 7);
        fault("tide;", 1, 4);
        fault("sink 5;", 1, 0);
        fault("shipperson;", 1, 0);
        fault("xhip 1 1 1 1;", 1, 0);
        fault("personz;", 1, 0);
        fault("persona;", 1, 0);
        fault("person`;", 1, 6);
        fault("person{;", 1, 6);
        fault("fee 1/;", 1, 5);
        fault("fee 1:;", 1, 5);
        fault("fee 9;fee", 3, 6);
    }

    private static void faultsOfNumbers() {
        fault("ship 61 61 0 1;", 2, 5);
        fault("ship 60 60 0 1;", 0, -1);
        fault("ship 5 61 0 1;", 2, 7);
        fault("ship 5 4 0 1;", 2, 7);
        fault("ship 5 5 24 1;", 2, 9);
        fault("ship 5 5 23 0;", 2, 12);
        fault("ship 5 5 23 13;", 2, 12);
        fault("ship 5 5 23 1 sink 10;", 2, 19);
        fault("ship 5 0005 23 1;", 2, 7);
        fault("ship 5 00000000000000000000000000000005 23 1;", 2, 7);
        fault("ship 005 005 023 001 sink 009;", 0, -1);
        fault("stone 100;", 2, 6);
        fault("stone 99 silt 10;", 2, 14);
        fault("tide 41;", 2, 5);
        fault("tide 40;", 0, -1);
        fault("clear 21;", 2, 6);
        fault("wait 3;", 2, 5);
        fault("fee 1000;", 2, 4);
        fault("fee 999;", 0, -1);
        fault("fee 0999;", 2, 4);
        // The first along the text is told, not the least.
        fault("fee 1000 x", 2, 4);
        fault("x fee 1000", 1, 0);
    }

    private static void faultsOfTooMany() {
        String ships = "ship 1 1 1 1;".repeat(5);
        fault(ships, 0, -1);
        fault(ships + "ship 1 1 1 1;", 2, 65);
        fault(ships + " ship", 2, 66);
        fault("person;".repeat(4), 0, -1);
        fault("person;".repeat(5), 2, 28);
        fault("mud 1;dock 1;mud 1;dock 1;mud 1;", 0, -1);
        fault("mud 1;dock 1;mud 1;dock 1;mud 1;stone 1;", 2, 32);
        fault("tide 1;tide 1;", 3, 7);
        fault("tide 0;tide x;", 3, 7);
        fault("clear 1;clear 1;", 3, 8);
        fault("wait 1;wait 1;", 3, 7);
        fault("fee 1;fee 1;", 3, 6);
        fault("tide 1;clear 1;wait 1;fee 1;", 0, -1);
    }

    private static void aFaultChangesNothing() {
        SoundHarbour x = Check.harbour("ship 5 10 0 1;person;stone 10;fee 3;");
        x.load(0, 40);
        x.lead(0, 0, 7, true);
        x.name(0, 1, 8);
        x.most(0, 0);
        x.image();
        CHECK.is("a text with a fault", Check.tell(x, "person;person;fee 4;person;x"), 1);
        CHECK.is("its place", x.fault(), 27);
        CHECK.is("the tape", x.count(8), 0);
        int[] due = {1, 1, 1, 0, 0, 0, 3, 1, 0, 1, 0, 0};
        for (int what = 0; what < due.length; what++) {
            CHECK.is("count(" + what + ") behind a fault", x.count(what), due[what]);
        }
        CHECK.is("LOAD", x.ship(0, 5), 40);
        CHECK.is("THE TRUE SPAN", x.ship(0, 6), 7);
        CHECK.is("THE ROW", x.row(0, 0), 0);
        CHECK.is("names", x.names(SoundHarbour.NONE), 1);
        CHECK.is("restore()", x.restore(), true);
    }

    private static void aHarbourBeginsAnew() {
        SoundHarbour x = Check.harbour("ship 5 10 0 1;person;person;stone 10;");
        Check.tell(x, "x");
        x.load(0, 40);
        x.lead(0, 0, 7, true);
        x.lead(0, 0, 7, true);
        x.name(0, 60, 60);
        x.name(0, 60, 59);
        x.most(0, 0);
        x.image();
        CHECK.is("another harbour", Check.tell(x, "ship 5 10 0 1;person;person;stone 10;"), 0);
        CHECK.is("fault()", x.fault(), SoundHarbour.NONE);
        CHECK.is("EVENTS", x.count(7), 0);
        CHECK.is("LOAD", x.ship(0, 5), 0);
        CHECK.is("THE TRUE SPAN", x.ship(0, 6), 5);
        CHECK.is("NAMES", x.names(0), 1);
        CHECK.noSuch("THE ROW", () -> x.row(0, 0));
        CHECK.is("the image", x.restore(), false);
        CHECK.is("STATUS 0 stays", x.count(9), 1);
        CHECK.is("STATUS 1 stays", x.count(10), 1);
        CHECK.is("STATUS 2 stays", x.count(11), 1);
        CHECK.is("a lead can be lowered again", x.lead(0, 0, 7, true), 1);
    }

    private static void wrongLengths() {
        SoundHarbour x = new SoundHarbour();
        Check.tell(x, "person;x");
        Check.feed(x, "person;");
        CHECK.illegal("harbour(21) of 20", () -> x.harbour(21));
        CHECK.illegal("harbour(-1)", () -> x.harbour(-1));
        CHECK.illegal("harbour(least int)", () -> x.harbour(Integer.MIN_VALUE));
        CHECK.illegal("harbour(greatest int)", () -> x.harbour(Integer.MAX_VALUE));
        CHECK.is("the tape", x.count(8), 20);
        CHECK.is("fault()", x.fault(), 7);
        CHECK.is("STATUS", x.count(9), 1);
        CHECK.is("harbour(20)", x.harbour(20), 0);
        CHECK.is("persons", x.count(1), 1);
        CHECK.illegal("harbour(1) of an empty tape", () -> x.harbour(1));
        Check.feed(x, "person;");
        CHECK.is("a word that is cut off", x.harbour(5), 1);
        CHECK.is("its place", x.fault(), 0);
        Check.feed(x, "fee 12;");
        CHECK.is("a line that is cut off", x.harbour(5), 1);
        CHECK.is("its place", x.fault(), 5);
    }

    private static void counts() {
        SoundHarbour x = new SoundHarbour();
        CHECK.noSuch("count(-1)", () -> x.count(-1));
        CHECK.noSuch("count(12)", () -> x.count(12));
    }
}
