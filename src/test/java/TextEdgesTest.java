/** Promises 1 to 5: each sentence that names an edge of the tape, of a text or of what is counted. */
public final class TextEdgesTest {
    private static final Edges EDGE = new Edges();
    private static final int NONE = SoundHarbour.NONE;
    private static final int BLANKS = 0x20202020;
    private static final int[] FAR = {Integer.MIN_VALUE, Integer.MIN_VALUE + 1, Integer.MAX_VALUE - 1, Integer.MAX_VALUE};

    public static void main(String[] args) {
        theConstant();
        aNewObject();
        theLastCalls();
        feeding();
        theFullTape();
        theFirstBytes();
        theTapeIsEmpty();
        allAnew();
        allStays();
        whatIsGone();
        wrongLengths();
        theFaultsPlace();
        counts();
        ships();
        shipsThatAreTooMuch();
        personsAndBerths();
        settings();
        lengthOfAText();
        tokens();
        numbers();
        lines();
        faultsAlongTheText();
        faultsOfOneToken();
        textsThatEndTooSoon();
        secondSettings();
        EDGE.end(1, 5);
    }

    private static void theConstant() {
        EDGE.term(1, "The constants: `NONE = -1`: There is none.");
        EDGE.is("NONE", SoundHarbour.NONE, -1);
    }

    private static void aNewObject() {
        EDGE.promise(1, "No SHIPS, no PERSONS, no BERTHS.");
        SoundHarbour x = new SoundHarbour();
        for (int what = 0; what <= 11; what++) {
            EDGE.is("count(" + what + ")", x.count(what), 0);
        }
        EDGE.noSuch("ship(0, 0)", () -> x.ship(0, 0));
        EDGE.noSuch("load(0, 0)", () -> x.load(0, 0));
        EDGE.noSuch("person(0, 0)", () -> x.person(0, 0));
        EDGE.noSuch("lead(0, 0, 1, true)", () -> x.lead(0, 0, 1, true));
        EDGE.noSuch("word(0, 1, 0, 1, true, 0)", () -> x.word(0, 1, 0, 1, true, 0));
        EDGE.noSuch("berth(0, 0, 0)", () -> x.berth(0, 0, 0));
        EDGE.noSuch("span(0, 0, 0, 0)", () -> x.span(0, 0, 0, 0));
        EDGE.noSuch("safe(0, 0, 0, 0, 0, 0)", () -> x.safe(0, 0, 0, 0, 0, 0));
        EDGE.noSuch("most(0, 0)", () -> x.most(0, 0));
        EDGE.noSuch("row(0, 0)", () -> x.row(0, 0));
        EDGE.noSuch("odds(0, 0, 1, 0)", () -> x.odds(0, 0, 1, 0));
        EDGE.noSuch("worth(0, 0, 1)", () -> x.worth(0, 0, 1));
        EDGE.noSuch("best(0, 0)", () -> x.best(0, 0));
        EDGE.noSuch("until(0, 0, 0)", () -> x.until(0, 0, 0));
        EDGE.noSuch("bears(0, 0, 0)", () -> x.bears(0, 0, 0));
        EDGE.noSuch("aground(0, 0, 0, 0, 0, 0)", () -> x.aground(0, 0, 0, 0, 0, 0));
        EDGE.noSuch("name(0, 0, 1)", () -> x.name(0, 0, 1));
        EDGE.noSuch("names(0)", () -> x.names(0));
        EDGE.is("names(NONE)", x.names(NONE), 1);
        EDGE.is("fault()", x.fault(), NONE);
        EDGE.is("liars()", x.liars(), 0);
        EDGE.is("undo()", x.undo(), NONE);
        EDGE.is("restore()", x.restore(), false);
        EDGE.is("a text of no byte", x.harbour(0), 0);
        SoundHarbour y = new SoundHarbour();
        y.image();
        EDGE.is("an image of it", y.restore(), true);
        SoundHarbour told = Check.harbour("ship 1 2 3 4;person;stone 5;");
        EDGE.is("one object doesn't know of another", new SoundHarbour().count(0) + told.count(0), 1);
    }

    private static void theLastCalls() {
        EDGE.opening(5, "An object is used for at most 512 calls after it has been made");
        SoundHarbour refusing = Check.harbour("ship 5 9 0 1;person;");
        for (int call = 3; call <= 511; call++) {
            refusing.lead(0, 0, 0, true);
        }
        EDGE.is("the 512th call, count(10)", refusing.count(10), 509);
        SoundHarbour faults = new SoundHarbour();
        for (int call = 1; call <= 510; call += 2) {
            faults.feed('x' << 24, BLANKS, BLANKS, BLANKS, BLANKS);
            faults.harbour(1);
        }
        EDGE.is("the 511th call, count(9)", faults.count(9), 255);
        EDGE.is("the 512th call, fault()", faults.fault(), 0);
        SoundHarbour tapes = new SoundHarbour();
        for (int call = 1; call <= 511; call++) {
            tapes.feed(BLANKS, BLANKS, BLANKS, BLANKS, BLANKS);
        }
        EDGE.is("the 512th call, count(8)", tapes.count(8), 500);
        SoundHarbour images = Check.harbour("ship 5 9 0 1;person;");
        images.lead(0, 0, 9, true);
        for (int call = 4; call <= 511; call++) {
            images.image();
        }
        EDGE.is("the 512th call, restore()", images.restore(), true);
    }

    private static void feeding() {
        EDGE.promise(2, "Twenty bytes come behind the tape, of each number the highest first");
        SoundHarbour x = new SoundHarbour();
        // "pers" "on;m" "ud 7" ";fee" " 12;"
        EDGE.is("twenty bytes", x.feed(0x70657273, 0x6f6e3b6d, 0x75642037, 0x3b666565, 0x2031323b), 20);
        EDGE.is("twenty more", x.feed(0x73746f6e, 0x6520393b, BLANKS, BLANKS, BLANKS), 40);
        EDGE.is("they are a harbour", x.harbour(40), 0);
        EDGE.is("a person", x.count(1), 1);
        EDGE.is("the mud", x.berth(0, 0, 0), 9);
        EDGE.is("the fee", x.count(6), 12);
        EDGE.is("the stone of the second twenty", x.berth(1, 0, 0), 9);
        for (int at = 0; at < 20; at++) {
            int[] five = {BLANKS, BLANKS, BLANKS, BLANKS, BLANKS};
            five[at / 4] ^= (0x20 ^ 0x80 + at) << 24 - at % 4 * 8;
            x.feed(BLANKS, BLANKS, BLANKS, BLANKS, BLANKS);
            x.feed(five[0], five[1], five[2], five[3], five[4]);
            EDGE.is("a byte above 127 as byte " + at + " of twenty", x.harbour(40), 1);
            EDGE.is("its place", x.fault(), 20 + at);
        }
        x.feed(0xffffffff, 0xffffffff, 0xffffffff, 0xffffffff, 0xffffffff);
        EDGE.is("bytes 255", x.harbour(20), 1);
        x.feed(0, 0, 0, 0, 0);
        EDGE.is("bytes 0 are no blanks", x.harbour(1), 1);
    }

    private static void theFullTape() {
        EDGE.promise(2, "how many it has; NONE, and none come, if it would have more than 500.");
        SoundHarbour x = new SoundHarbour();
        for (int i = 1; i <= 25; i++) {
            EDGE.is("feed " + i, x.feed(BLANKS, BLANKS, BLANKS, BLANKS, i == 25 ? 0x6d75643b : BLANKS), 20 * i);
        }
        String before = Edges.state(x);
        EDGE.is("the 26th", x.feed(0x78787878, 0x78787878, 0x78787878, 0x78787878, 0x78787878), NONE);
        EDGE.is("the 27th", x.feed(BLANKS, BLANKS, BLANKS, BLANKS, BLANKS), NONE);
        EDGE.same("nothing changes", Edges.state(x), before);
        EDGE.illegal("501 bytes are not there", () -> x.harbour(501));
        EDGE.is("the first 500 are as they were", x.harbour(500), 1);
        EDGE.is("'mud' is the last word, without a number", x.fault(), 499);
        EDGE.is("the tape is free again", x.feed(BLANKS, BLANKS, BLANKS, BLANKS, BLANKS), 20);
    }

    private static void theFirstBytes() {
        EDGE.promise(3, "The tape's first n bytes");
        String text = "person;fee 123;person;person;x";
        int[][] due = {{0, 0, NONE}, {1, 1, 0}, {5, 1, 0}, {6, 1, 6}, {7, 0, NONE}, {8, 1, 7}, {10, 1, 10}, {11, 1, 11},
            {12, 1, 12}, {14, 1, 14}, {15, 0, NONE}, {22, 0, NONE}, {29, 0, NONE}, {30, 1, 29}, {40, 1, 29}};
        for (int[] one : due) {
            SoundHarbour x = new SoundHarbour();
            Check.feed(x, text);
            EDGE.is("harbour(" + one[0] + ") of '" + text + "'", x.harbour(one[0]), one[1]);
            EDGE.is("its fault()", x.fault(), one[2]);
        }
        SoundHarbour x = new SoundHarbour();
        Check.feed(x, text);
        x.harbour(22);
        EDGE.is("persons of the first 22", x.count(1), 2);
    }

    private static void theTapeIsEmpty() {
        EDGE.promise(3, "(it is empty then)");
        SoundHarbour x = new SoundHarbour();
        Check.feed(x, "person;person;       x x x");
        x.harbour(7);
        EDGE.is("behind fewer bytes than it had", x.count(8), 0);
        EDGE.illegal("the others are gone", () -> x.harbour(1));
        EDGE.is("the next feed is its beginning", x.feed(BLANKS, BLANKS, BLANKS, BLANKS, BLANKS), 20);
        EDGE.is("what came before doesn't come again", x.harbour(20), 0);
        EDGE.is("nobody is there", x.count(1), 0);
        Check.feed(x, "x");
        EDGE.is("a FAULT", x.harbour(1), 1);
        EDGE.is("behind a FAULT", x.count(8), 0);
        Check.feed(x, "person;");
        EDGE.is("behind no byte", x.harbour(0) + x.count(8), 0);
    }

    private static void allAnew() {
        EDGE.promise(3, "are a HARBOUR, all anew: 0");
        SoundHarbour x = Check.harbour("ship 5 10 3 4 sink 9;ship 1 2 3 4;person;person;mud 9 silt 9;dock 1;"
                + "tide 40;clear 20;wait 2;fee 999;");
        EDGE.is("another one", Check.tell(x, "ship 6 7 8 9;person;stone 9;"), 0);
        int[] due = {1, 1, 1, 0, 0, 0, 0};
        for (int what = 0; what < due.length; what++) {
            EDGE.is("count(" + what + ")", x.count(what), due[what]);
        }
        int[] ship = {6, 7, 8, 9, 0, 0, 6, 7};
        for (int what = 0; what < ship.length; what++) {
            EDGE.is("ship(0, " + what + ")", x.ship(0, what), ship[what]);
        }
        EDGE.is("stone, no SILT, no TIDE", x.berth(0, 6, 9999), 9);
        EDGE.noSuch("the second ship", () -> x.ship(1, 0));
        EDGE.noSuch("the second person", () -> x.person(1, 0));
        EDGE.noSuch("the second berth", () -> x.berth(1, 0, 0));
        EDGE.is("no byte at all", x.harbour(0), 0);
        EDGE.is("nothing is there", x.count(0) + x.count(1) + x.count(2), 0);
    }

    private static SoundHarbour busy() {
        SoundHarbour x = Check.harbour("ship 5 10 3 4 sink 1;ship 1 20 3 4;person;person;mud 9 silt 9;dock 11;"
                + "tide 6;clear 1;wait 1;fee 3;");
        x.load(0, 10);
        x.lead(0, 0, 9, false);
        x.word(0, 1, 1, 8, false, 5);
        x.name(0, 6, 8);
        x.name(0, 8, 6);
        x.lead(0, 0, 9, false);
        x.most(1, 0);
        x.image();
        x.lead(1, 0, 7, true);
        return x;
    }

    private static void allStays() {
        EDGE.promise(3, "or the FAULT (all stays, but STATUS)");
        String[] texts = {"person;x", "ship 1 2 3 4;ship 2 1 0 1;", "tide 1;tide 2;", "person;person;person;person;person;"};
        int[] kinds = {1, 2, 3, 2};
        int[] places = {7, 20, 7, 28};
        for (int i = 0; i < texts.length; i++) {
            SoundHarbour x = busy();
            String before = Edges.stateBehindStatus(x);
            EDGE.is("'" + texts[i] + "'", Check.tell(x, texts[i]), kinds[i]);
            EDGE.is("its place", x.fault(), places[i]);
            EDGE.is("STATUS 0", x.count(9), 1);
            EDGE.is("STATUS 1 and 2", x.count(10) * 10 + x.count(11), 11);
            EDGE.same("all else", Edges.stateBehindStatus(x), before);
            EDGE.is("the image stays", x.restore(), true);
            EDGE.is("it is the one from before", x.count(7) * 10 + x.count(9), 20);
        }
    }

    private static void whatIsGone() {
        EDGE.promise(3, "EVENTS, LOADS, NAMES, THE ROW, the image are gone.");
        SoundHarbour x = busy();
        String text = "ship 5 10 3 4 sink 1;ship 1 20 3 4;person;person;mud 9 silt 9;dock 11;tide 6;clear 1;wait 1;fee 3;";
        EDGE.is("the same text once more", Check.tell(x, text), 0);
        EDGE.same("as if it were the first", Edges.stateBehindStatus(x), Edges.stateBehindStatus(Check.harbour(text)));
        EDGE.is("EVENTS", x.count(7), 0);
        EDGE.is("nothing to undo", x.undo(), NONE);
        EDGE.is("LOADS", x.ship(0, 5), 0);
        EDGE.is("NAMES", x.names(0), 3);
        EDGE.noSuch("THE ROW", () -> x.row(0, 0));
        EDGE.is("the image", x.restore(), false);
        EDGE.is("STATUS is not among them", x.count(9) * 100 + x.count(10) * 10 + x.count(11), 11);
        EDGE.is("what he paid", x.person(0, 0), 0);
        EDGE.is("he may lower a lead again", x.lead(0, 0, 9, true), 1);
        x.name(0, 60, 60);
        x.name(1, 0, 0);
        EDGE.is("NAMES for no ship", x.names(NONE), 0);
        Check.tell(x, text);
        EDGE.is("both ends of their spans are gone", x.names(NONE), 2);
        SoundHarbour empty = busy();
        EDGE.is("a text of no byte", empty.harbour(0), 0);
        EDGE.is("its EVENTS", empty.count(7), 0);
        EDGE.is("the image is gone by it, too", empty.restore(), false);
    }

    private static void wrongLengths() {
        EDGE.promise(3, "IllegalArgumentException: the tape has not so many, n below 0 (nothing changes).");
        SoundHarbour x = busy();
        Check.tell(x, "person;x");
        EDGE.illegal("1 of 0", () -> x.harbour(1));
        Check.feed(x, "person;");
        String before = Edges.state(x);
        EDGE.illegal("21 of 20", () -> x.harbour(21));
        EDGE.illegal("-1", () -> x.harbour(-1));
        for (int n : FAR) {
            EDGE.illegal("" + n, () -> x.harbour(n));
        }
        EDGE.same("nothing changes", Edges.state(x), before);
        EDGE.is("nor does the image", x.restore(), true);
        EDGE.is("the tape's bytes are there", x.harbour(20), 0);
        EDGE.is("they are one person", x.count(1), 1);
    }

    private static void theFaultsPlace() {
        EDGE.promise(4, "The place of the latest harbour()'s FAULT; NONE without.");
        SoundHarbour x = new SoundHarbour();
        EDGE.is("without a harbour()", x.fault(), NONE);
        Check.tell(x, "x");
        EDGE.is("at the first byte", x.fault(), 0);
        Check.tell(x, "person;x");
        EDGE.is("the latest one's", x.fault(), 7);
        EDGE.is("asked again", x.fault(), 7);
        EDGE.illegal("harbour(-1)", () -> x.harbour(-1));
        EDGE.is("an exception leaves it", x.fault(), 7);
        x.image();
        Check.feed(x, "person;");
        EDGE.is("the tape is no matter", x.fault(), 7);
        x.harbour(7);
        EDGE.is("without a FAULT", x.fault(), NONE);
        for (int i = 0; i < 25; i++) {
            x.feed(BLANKS, BLANKS, BLANKS, BLANKS, i < 24 ? BLANKS : 0x20202078);
        }
        x.harbour(500);
        EDGE.is("at the last byte of 500", x.fault(), 499);
        Check.feed(x, "person;".repeat(3) + " ".repeat(472) + "person");
        x.harbour(499);
        EDGE.is("the length of a text of 499", x.fault(), 499);
        Check.feed(x, " ".repeat(494) + "person");
        x.harbour(500);
        EDGE.is("the length of a text of 500", x.fault(), 500);
    }

    private static void counts() {
        EDGE.promise(5, "0 SHIPS, 1 PERSONS, 2 BERTHS, 3 R, 4 CLEAR, 5 WAIT, 6 FEE, 7 EVENTS, 8 bytes of the tape, "
                + "9 to 11 STATUS 0 to 2.");
        SoundHarbour x = Check.harbour("ship 1 9 0 1;ship 1 9 0 1;person;person;person;dock 1;tide 40;clear 20;wait 2;fee 999;");
        Check.tell(x, "y");
        for (int i = 0; i < 2; i++) {
            x.word(0, 1, 0, 5, true, 1);
            x.lead(0, 0, 61, true);
        }
        for (int i = 0; i < 3; i++) {
            x.name(0, 1, 0);
        }
        Check.feed(x, "person;");
        int[] due = {2, 3, 1, 40, 20, 2, 999, 2, 20, 1, 2, 3};
        for (int what = 0; what < due.length; what++) {
            EDGE.is("count(" + what + ")", x.count(what), due[what]);
        }
        EDGE.promise(5, "NoSuchElementException: another what.");
        EDGE.noSuch("count(-1)", () -> x.count(-1));
        EDGE.noSuch("count(12)", () -> x.count(12));
        for (int what : FAR) {
            EDGE.noSuch("count(" + what + ")", () -> x.count(what));
        }
    }

    private static void text(String text, int kind, int place) {
        SoundHarbour x = new SoundHarbour();
        String told = text.length() > 60 ? text.substring(0, 20) + ".." + text.substring(text.length() - 30) : text;
        EDGE.is("'" + told + "'", Check.tell(x, text), kind);
        EDGE.is("fault() of '" + told + "'", x.fault(), place);
        EDGE.is("STATUS 0 of '" + told + "'", x.count(9), kind == 0 ? 0 : 1);
    }

    private static void ships() {
        EDGE.term(3, "each with a KEEL from LOW to HIGH (0 to 60)");
        text("ship 0 0 0 1;", 0, NONE);
        text("ship 0 60 0 1;", 0, NONE);
        text("ship 60 60 0 1;", 0, NONE);
        text("ship 61 61 0 1;", 2, 5);
        text("ship 60 61 0 1;", 2, 8);
        text("ship 999 999 0 1;", 2, 5);
        EDGE.term(3, "an HOUR at which it ARRIVES (0 to 23)");
        text("ship 1 1 0 1;", 0, NONE);
        text("ship 1 1 23 1;", 0, NONE);
        text("ship 1 1 24 1;", 2, 9);
        EDGE.term(3, "so many hours that it STAYS (1 to 12)");
        text("ship 1 1 1 1;", 0, NONE);
        text("ship 1 1 1 12;", 0, NONE);
        text("ship 1 1 1 0;", 2, 11);
        text("ship 1 1 1 13;", 2, 11);
        EDGE.term(3, "SINK (0 to 9; 0 without)");
        text("ship 1 1 1 1 sink 0;", 0, NONE);
        text("ship 1 1 1 1 sink 9;", 0, NONE);
        text("ship 1 1 1 1 sink 10;", 2, 18);
        EDGE.is("without", Check.harbour("ship 1 1 1 1 sink 3;ship 1 1 1 1;").ship(1, 4), 0);
        EDGE.is("with 9", Check.harbour("ship 1 1 1 1;ship 1 1 1 1 sink 9;").ship(1, 4), 9);
        EDGE.term(3, "(a HIGH below its LOW)");
        text("ship 5 5 1 1;", 0, NONE);
        text("ship 5 4 1 1;", 2, 7);
        text("ship 60 0 1 1;", 2, 8);
        text("ship 5 4 99 99;", 2, 7);
        text("ship 9 9 0 1;ship 5 6 0 1;", 0, NONE);
        EDGE.term(3, "LOAD (0 to 99; 0 at first)");
        EDGE.is("at first", Check.harbour("ship 1 1 1 1 sink 9;").ship(0, 5), 0);
    }

    private static void shipsThatAreTooMuch() {
        EDGE.term(3, "SHIPS 0, 1 .. (at most 5)");
        String five = "ship 1 1 1 1;".repeat(5);
        text(five, 0, NONE);
        SoundHarbour x = Check.harbour("ship 1 9 1 1;ship 2 9 1 1;ship 3 9 1 1;ship 4 9 1 1;ship 5 9 1 1;");
        for (int ship = 0; ship < 5; ship++) {
            EDGE.is("LOW of ship " + ship, x.ship(ship, 0), ship + 1);
        }
        EDGE.noSuch("ship 5", () -> x.ship(5, 0));
        EDGE.term(3, "the first TOKEN of the 6th SHIP, the 5th PERSON, the 6th BERTH");
        text(five + "ship 1 1 1 1;", 2, 65);
        text(five + "person; \nship", 2, 74);
        text(five + "ship x", 2, 65);
        text("person;".repeat(4) + "person;", 2, 28);
        text("person;".repeat(4) + "mud 1;person", 2, 34);
        text("stone 1;mud 1;dock 1;stone 1;mud 1;dock 1;", 2, 35);
        text("stone 1;stone 1;stone 1;stone 1;stone 1;stone", 2, 40);
        text("stone 1;stone 1;stone 1;stone 1;stone 1;mud 1;", 2, 40);
        text(five + "person;".repeat(4) + "mud 1;".repeat(5) + "ship", 2, 123);
    }

    private static void personsAndBerths() {
        EDGE.term(3, "PERSONS 0, 1 .. (at most 4)");
        text("person;".repeat(4), 0, NONE);
        SoundHarbour four = Check.harbour("person;person;person;person;");
        EDGE.is("the fourth", four.person(3, 0), 0);
        EDGE.noSuch("no fifth", () -> four.person(4, 0));
        EDGE.term(3, "BERTHS 0, 1 .. (at most 5), of kinds: 0 stone, 1 mud, 2 dock");
        text("stone 1;mud 1;dock 1;stone 1;mud 1;", 0, NONE);
        text("dock 1;dock 1;dock 1;dock 1;dock 1;", 0, NONE);
        SoundHarbour x = Check.harbour("tide 6;stone 1;mud 2;dock 3;mud 4;stone 5;");
        int[] due = {1, 4, 9, 6, 5};
        for (int berth = 0; berth < due.length; berth++) {
            EDGE.is("berth " + berth + " in hour 0", x.berth(berth, 0, 0), due[berth]);
        }
        EDGE.noSuch("no sixth", () -> x.berth(5, 0, 0));
        EDGE.term(3, "with a DEPTH (0 to 99), SILT (0 to 9; 0 without)");
        text("stone 0;mud 0;dock 0;", 0, NONE);
        text("stone 99;mud 99;dock 99;", 0, NONE);
        text("stone 100;", 2, 6);
        text("mud 100;", 2, 4);
        text("dock 100;", 2, 5);
        text("stone 9 silt 0;mud 9 silt 9;dock 9 silt 9;", 0, NONE);
        text("stone 9 silt 10;", 2, 13);
        text("mud 9 silt 10;", 2, 11);
        text("dock 9 silt 10;", 2, 12);
        EDGE.is("without", Check.harbour("stone 9 silt 9;stone 9;").berth(1, 0, 9999), 9);
    }

    private static void settings() {
        String[] words = {"tide", "clear", "wait", "fee"};
        int[] most = {40, 20, 2, 999};
        String[] terms = {"TIDE R (0 to 40; 0 without)", "CLEAR (0 to 20; 0 without)", "WAIT (0 to 2; 0 without)",
            "FEE (0 to 999; 0 without)"};
        for (int i = 0; i < 4; i++) {
            EDGE.term(3, terms[i]);
            text(words[i] + " 0;", 0, NONE);
            text(words[i] + " " + most[i] + ";", 0, NONE);
            text(words[i] + " " + (most[i] + 1) + ";", 2, words[i].length() + 1);
            EDGE.is("the most", Check.harbour(words[i] + " " + most[i] + ";").count(3 + i), most[i]);
            EDGE.is("without", Check.harbour("person;").count(3 + i), 0);
        }
    }

    private static void lengthOfAText() {
        EDGE.term(3, "A TEXT of at most 500 bytes tells it.");
        String line = "person;";
        text(" ".repeat(500), 0, NONE);
        text(" ".repeat(493) + line, 0, NONE);
        text(line + "\n".repeat(493), 0, NONE);
        text(" ".repeat(494) + "person", 1, 500);
        text("ship 1 1 1 1;person;" + " ".repeat(479) + "x", 1, 499);
        text("fee " + "0".repeat(495) + ";", 2, 4);
        text("p".repeat(500), 1, 0);
        text(";".repeat(500), 1, 0);
    }

    private static void tokens() {
        EDGE.term(3, "TOKENS: words (a .. z, the longest row)");
        text("persona;", 1, 0);
        text("personz;", 1, 0);
        text("zperson;", 1, 0);
        text("qerson;", 1, 0);
        text("persom;", 1, 0);
        text("personperson;", 1, 0);
        text("perso n;", 1, 0);
        text("ship1 1 1 1sink1;", 0, NONE);
        text("Person;", 1, 0);
        text("personA;", 1, 6);
        text("person`;", 1, 6);
        text("person{;", 1, 6);
        text("", 0, NONE);
        EDGE.term(3, "the sign ; and blanks (32, 10) between them, which count for nothing.");
        text("person;person;", 0, NONE);
        text("\n \n person \n ; \n\nperson\n;\n ", 0, NONE);
        text("ship\n1\n1\n1\n1\n;", 0, NONE);
        text(" \n", 0, NONE);
        for (int sign = 0; sign <= 255; sign++) {
            boolean isBlank = sign == 32 || sign == 10;
            boolean isWord = sign >= 'a' && sign <= 'z';
            boolean isKnown = isBlank || isWord || sign == ';' || sign >= '0' && sign <= '9';
            String told = "byte " + sign;
            SoundHarbour x = new SoundHarbour();
            EDGE.is(told + " before a line", Check.tell(x, (char) sign + " person;"), isBlank ? 0 : 1);
            EDGE.is(told + " in a line", Check.tell(x, "person " + (char) sign + ";"), isBlank ? 0 : 1);
            EDGE.is("place of " + told, x.fault(), isBlank ? NONE : sign == ';' ? 8 : 7);
            if (!isKnown) {
                EDGE.is(told + " at a word", Check.tell(x, "person" + (char) sign + ";"), 1);
                EDGE.is("place of " + told + " at a word", x.fault(), 6);
                EDGE.is(told + " at a number", Check.tell(x, "fee 1" + (char) sign + "2;"), 1);
                EDGE.is("place of " + told + " at a number", x.fault(), 5);
            }
        }
    }

    private static void numbers() {
        EDGE.term(3, "NUMBERS (1 to 3 digits)");
        text("fee 0;", 0, NONE);
        text("fee 00;", 0, NONE);
        text("fee 000;", 0, NONE);
        text("fee 007;", 0, NONE);
        EDGE.is("of three digits", Check.harbour("fee 012;").count(6), 12);
        EDGE.is("of two", Check.harbour("fee 09;").count(6), 9);
        text("ship 001 060 023 012 sink 009;", 0, NONE);
        text("fee -1;", 1, 4);
        text("fee +1;", 1, 4);
        text("fee 1.5;", 1, 5);
        text("fee 1 2;", 1, 6);
        EDGE.term(3, "a NUMBER of 4 digits or more");
        text("fee 0000;", 2, 4);
        text("fee 0001;", 2, 4);
        text("fee 1000;", 2, 4);
        text("fee 12345678901234567890;", 2, 4);
        text("fee 4294967296;", 2, 4);
        text("ship 0001 1 1 1;", 2, 5);
        text("ship 1 0001 1 1;", 2, 7);
        text("ship 1 1 0001 1;", 2, 9);
        text("ship 1 1 1 0001;", 2, 11);
        text("ship 1 1 1 1 sink 0001;", 2, 18);
        text("stone 0001;", 2, 6);
        text("stone 1 silt 0001;", 2, 13);
        text("tide 0001;", 2, 5);
        text("clear 0001;", 2, 6);
        text("wait 0001;", 2, 5);
    }

    private static void lines() {
        EDGE.term(3, "[ ] perhaps, * any number of times, | one of some. HARBOUR: LINE*.");
        text("", 0, NONE);
        text("person;", 0, NONE);
        text("mud 1;person;tide 3;ship 1 1 1 1;person;dock 2 silt 3;fee 1;ship 1 1 1 1 sink 2;", 0, NONE);
        text("ship 1 1 1 1 sink 1 sink 1;", 1, 20);
        text("ship 1 1 1 1 silt 1;", 1, 13);
        text("ship 1 1 1 1 sink;", 1, 17);
        text("ship 1 1 1 1 1;", 1, 13);
        text("ship 1 1 1;", 1, 10);
        text("ship sink 1;", 1, 5);
        text("stone 1 silt 1 silt 1;", 1, 15);
        text("stone 1 sink 1;", 1, 8);
        text("stone silt 1;", 1, 6);
        text("mud 1 silt;", 1, 10);
        text("person 1;", 1, 7);
        text("person silt 1;", 1, 7);
        text("tide;", 1, 4);
        text("tide 1 2;", 1, 7);
        text("wait wait 1;", 1, 5);
        text("sink 1;", 1, 0);
        text("silt 1;", 1, 0);
        text(";", 1, 0);
        text("person;;", 1, 7);
        text("1;", 1, 0);
        text("harbour;", 1, 0);
    }

    private static void faultsAlongTheText() {
        EDGE.term(3, "FAULTS, the first along the text, at a TOKEN's first byte");
        text("fee 1000;x", 2, 4);
        text("fee 1;fee 1;x", 3, 6);
        text("x;fee 1000;fee 1", 1, 0);
        text("ship 5 4 0 1;x", 2, 7);
        text("ship 5 x 24 0", 1, 7);
        text("ship 61 4 24 0", 2, 5);
        text("ship 5 5 24 0", 2, 9);
        text("   persone;", 1, 3);
        text("fee   99999;", 2, 6);
        text("fee 9;\n\n  fee 9;", 3, 10);
        text("person;".repeat(5) + "tide 41;", 2, 28);
        text("tide 41;" + "person;".repeat(5), 2, 5);
        text("ship 5 6 7 8 9", 1, 13);
        text("ship 5 6 7 13 9", 2, 11);
    }

    private static void faultsOfOneToken() {
        EDGE.term(3, "of one TOKEN the least: 1 a TOKEN that can't stand there, or is none");
        text("person 1000;", 1, 7);
        text("1000;", 1, 0);
        text("fee 1;fee fee 1;", 3, 6);
        text("fee fee 1;", 1, 4);
        text("fee 1 fee 1;", 1, 6);
        text("fee 1 1000;", 1, 6);
        text("person;".repeat(4) + "mud person;", 1, 32);
        text("ship 1 1 1 1;".repeat(5) + "person ship 1 1 1 1;", 1, 72);
        text("mud 1;".repeat(5) + "person mud 1;", 1, 37);
        text("ship 5 ship 1 1;", 1, 7);
        text("ship 5;", 1, 6);
        text("ship person 1 1 1;", 1, 5);
    }

    private static void textsThatEndTooSoon() {
        EDGE.term(3, "(the text's length where it ends too soon)");
        text("ship", 1, 4);
        text("ship 1", 1, 6);
        text("ship 1 1", 1, 8);
        text("ship 1 1 1", 1, 10);
        text("ship 1 1 1 1", 1, 12);
        text("ship 1 1 1 1 sink", 1, 17);
        text("ship 1 1 1 1 sink 1", 1, 19);
        text("person", 1, 6);
        text("person \n ", 1, 9);
        text("stone", 1, 5);
        text("mud 1", 1, 5);
        text("dock 1 silt", 1, 11);
        text("dock 1 silt 1", 1, 13);
        text("tide", 1, 4);
        text("clear 1", 1, 7);
        text("wait 1  ", 1, 8);
        text("fee 1;fee", 3, 6);
    }

    private static void secondSettings() {
        EDGE.term(3, "3 a second 'tide', 'clear', 'wait', 'fee'.");
        String[] words = {"tide", "clear", "wait", "fee"};
        for (String word : words) {
            int place = word.length() + 3;
            text(word + " 1;" + word + " 1;", 3, place);
            text(word + " 0;" + word + " 0;", 3, place);
            text(word + " 1;" + word, 3, place);
            text(word + " 1;" + word + " 1000;", 3, place);
            text(word + " 1;person;" + word + " 2;", 3, place + 7);
        }
        text("tide 1;clear 1;wait 1;fee 1;", 0, NONE);
        text("fee 1;wait 1;clear 1;tide 1;", 0, NONE);
        SoundHarbour x = Check.harbour("tide 1;clear 1;wait 1;fee 1;");
        EDGE.is("another text may tell them again", Check.tell(x, "tide 2;clear 2;wait 2;fee 2;"), 0);
    }
}
