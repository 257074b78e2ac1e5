/** Promises 6 to 14: each sentence that names an edge of ships, persons, berths, events, spans or liars. */
public final class EventEdgesTest {
    private static final Edges EDGE = new Edges();
    private static final int NONE = SoundHarbour.NONE;
    private static final int[] FAR = {Integer.MIN_VALUE, Integer.MIN_VALUE + 1, Integer.MAX_VALUE - 1, Integer.MAX_VALUE};

    public static void main(String[] args) {
        ships();
        trueSpans();
        persons();
        whatIsPaid();
        berths();
        tides();
        silt();
        loads();
        leads();
        eightyLeadsAndWords();
        depths();
        oneLeadBesideEach();
        leadsThatCannotBe();
        loadsDoNotMatter();
        words();
        wordsMayLie();
        undoing();
        spans();
        spansByThen();
        emptySpans();
        liars();
        liarsOfAsSmall();
        EDGE.end(6, 14);
    }

    private static void ships() {
        EDGE.promise(6, "0 LOW, 1 HIGH, 2 ARRIVES, 3 STAYS, 4 SINK, 5 LOAD, 6, 7 THE TRUE SPAN's least, greatest KEEL.");
        SoundHarbour x = Check.harbour("ship 1 2 3 4;ship 0 0 0 1 sink 0;ship 60 60 23 12 sink 9;ship 0 60 5 6;ship 7 8 9 10 sink 1;");
        x.load(2, 99);
        int[][] due = {{1, 2, 3, 4, 0, 0, 1, 2}, {0, 0, 0, 1, 0, 0, 0, 0}, {60, 60, 23, 12, 9, 99, 60, 60},
            {0, 60, 5, 6, 0, 0, 0, 60}, {7, 8, 9, 10, 1, 0, 7, 8}};
        for (int ship = 0; ship < 5; ship++) {
            for (int what = 0; what < 8; what++) {
                EDGE.is("ship(" + ship + ", " + what + ")", x.ship(ship, what), due[ship][what]);
            }
        }
        EDGE.promise(6, "NoSuchElementException: no such SHIP (as everywhere), what.");
        EDGE.noSuch("ship(5, 0)", () -> x.ship(5, 0));
        EDGE.noSuch("ship(-1, 0)", () -> x.ship(-1, 0));
        for (int what : new int[] {-1, 8}) {
            EDGE.noSuch("ship(0, " + what + ")", () -> x.ship(0, what));
        }
        for (int far : FAR) {
            EDGE.noSuch("ship(" + far + ", 0)", () -> x.ship(far, 0));
            EDGE.noSuch("ship(4, " + far + ")", () -> x.ship(4, far));
        }
        SoundHarbour one = Check.harbour("ship 1 2 3 4;");
        EDGE.noSuch("ship(1, 0) of one ship", () -> one.ship(1, 0));
    }

    private static void trueSpans() {
        EDGE.term(6, "THE TRUE SPAN: by all LEADS.");
        SoundHarbour x = Check.harbour("ship 5 10 0 1;ship 5 10 0 1;person;person;person;");
        x.word(0, 1, 0, 8, true, 0);
        EDGE.is("a WORD is none of them", x.ship(0, 6) * 100 + x.ship(0, 7), 510);
        x.lead(2, 0, 7, true);
        EDGE.is("anybody's LEAD that touches", x.ship(0, 6) * 100 + x.ship(0, 7), 710);
        x.lead(0, 0, 9, false);
        EDGE.is("one that doesn't", x.ship(0, 6) * 100 + x.ship(0, 7), 708);
        x.lead(1, 0, 8, true);
        EDGE.is("one KEEL is left", x.ship(0, 6) * 100 + x.ship(0, 7), 808);
        EDGE.is("the other ship", x.ship(1, 6) * 100 + x.ship(1, 7), 510);
        x.undo();
        EDGE.is("without the last", x.ship(0, 6) * 100 + x.ship(0, 7), 708);
    }

    private static void persons() {
        EDGE.promise(7, "0 what he paid, 1 what he was paid, 2 his LEADS, 3 WORDS that he sold, 4 bought.");
        SoundHarbour x = Check.harbour("fee 999;ship 1 60 0 1;ship 1 60 0 1;person;person;person;person;");
        for (int person = 0; person < 4; person++) {
            for (int what = 0; what < 5; what++) {
                EDGE.is("at first person(" + person + ", " + what + ")", x.person(person, what), 0);
            }
        }
        x.lead(3, 0, 5, true);
        x.lead(3, 1, 5, true);
        x.word(3, 0, 0, 5, false, 999);
        x.word(3, 0, 0, 5, false, 0);
        x.word(0, 3, 1, 5, true, 1);
        x.word(2, 3, 1, 5, true, 10);
        int[][] due = {{999, 1, 0, 1, 2}, {0, 0, 0, 0, 0}, {0, 10, 0, 1, 0}, {2009, 999, 2, 2, 2}};
        for (int person = 0; person < 4; person++) {
            for (int what = 0; what < 5; what++) {
                EDGE.is("person(" + person + ", " + what + ")", x.person(person, what), due[person][what]);
            }
        }
        EDGE.promise(7, "NoSuchElementException: no such PERSON (as everywhere), what.");
        EDGE.noSuch("person(4, 0)", () -> x.person(4, 0));
        EDGE.noSuch("person(-1, 0)", () -> x.person(-1, 0));
        EDGE.noSuch("person(0, 5)", () -> x.person(0, 5));
        EDGE.noSuch("person(0, -1)", () -> x.person(0, -1));
        for (int far : FAR) {
            EDGE.noSuch("person(" + far + ", 0)", () -> x.person(far, 0));
            EDGE.noSuch("person(0, " + far + ")", () -> x.person(0, far));
        }
    }

    private static void whatIsPaid() {
        EDGE.term(7, "he pays FEE");
        SoundHarbour free = Check.harbour("ship 5 10 0 1;person;person;");
        free.lead(0, 0, 7, true);
        EDGE.is("without FEE", free.person(0, 0), 0);
        SoundHarbour x = Check.harbour("fee 7;ship 5 10 0 1;person;person;");
        x.lead(0, 0, 11, true);
        EDGE.is("not for one that is refused", x.person(0, 0), 0);
        x.lead(0, 0, 7, true);
        EDGE.is("for one", x.person(0, 0), 7);
        EDGE.is("to nobody", x.person(0, 1) + x.person(1, 1), 0);
        x.undo();
        EDGE.is("not for one that is undone", x.person(0, 0), 0);
        EDGE.term(7, "for a price (0 to 999; paid to him)");
        for (int i = 0; i < 80; i++) {
            x.word(0, 1, 0, 7, true, 999);
        }
        x.word(0, 1, 0, 7, true, 999);
        EDGE.is("eighty of the dearest", x.person(0, 1), 79920);
        EDGE.is("the buyer paid as much", x.person(1, 0), 79920);
        EDGE.is("no FEE for a WORD", x.person(0, 0), 0);
        EDGE.is("sold, bought", x.person(0, 3) * 100 + x.person(1, 4), 8080);
        EDGE.is("nor the other way", x.person(1, 3) + x.person(0, 4) + x.person(1, 1), 0);
    }

    private static void berths() {
        EDGE.promise(8, "NoSuchElementException: no such BERTH (as everywhere), hour or DAY below 0, hour above 99, "
                + "DAY above 9999 (as everywhere).");
        SoundHarbour x = Check.harbour("tide 6;stone 9 silt 1;dock 5;");
        EDGE.is("hour 0, DAY 0", x.berth(0, 0, 0), 9);
        EDGE.is("hour 99", x.berth(0, 99, 0), 12);
        EDGE.is("DAY 9999", x.berth(0, 99, 9999), 3);
        EDGE.is("the last berth", x.berth(1, 99, 9999), 11);
        EDGE.noSuch("berth 2", () -> x.berth(2, 0, 0));
        EDGE.noSuch("berth -1", () -> x.berth(-1, 0, 0));
        EDGE.noSuch("hour -1", () -> x.berth(0, -1, 0));
        EDGE.noSuch("hour 100", () -> x.berth(0, 100, 0));
        EDGE.noSuch("hour 100 of a dock", () -> x.berth(1, 100, 0));
        EDGE.noSuch("DAY -1", () -> x.berth(0, 0, -1));
        EDGE.noSuch("DAY 10000", () -> x.berth(0, 0, 10000));
        for (int far : FAR) {
            EDGE.noSuch("berth " + far, () -> x.berth(far, 0, 0));
            EDGE.noSuch("hour " + far, () -> x.berth(0, far, 0));
            EDGE.noSuch("DAY " + far, () -> x.berth(0, 0, far));
        }
    }

    private static void tides() {
        EDGE.term(8, "R by 6 less how far h MOD 12 is from 6, by 6, cut down.");
        int[] due = {0, 6, 13, 20, 26, 33, 40, 33, 26, 20, 13, 6};
        SoundHarbour x = Check.harbour("tide 40;stone 0;mud 0;dock 0;");
        for (int hour = 0; hour <= 99; hour++) {
            EDGE.is("R 40, hour " + hour, x.berth(0, hour, 0), due[hour % 12]);
        }
        SoundHarbour small = Check.harbour("tide 1;stone 0;");
        for (int hour = 0; hour <= 12; hour++) {
            EDGE.is("R 1, hour " + hour, small.berth(0, hour, 0), hour == 6 ? 1 : 0);
        }
        EDGE.is("without", Check.harbour("stone 0;").berth(0, 6, 0), 0);
        EDGE.term(8, "mud 2 more; a dock as much as in the hour 6 (THE TIDE is kept in).");
        for (int hour : new int[] {0, 1, 6, 11, 12, 99}) {
            EDGE.is("mud, hour " + hour, x.berth(1, hour, 0), 2 + due[hour % 12]);
            EDGE.is("dock, hour " + hour, x.berth(2, hour, 0), 40);
        }
        SoundHarbour low = Check.harbour("mud 0;dock 0;mud 1 silt 9;dock 1 silt 9;tide 7;");
        EDGE.is("mud of no DEPTH", low.berth(0, 0, 0), 2);
        EDGE.is("dock of no DEPTH", low.berth(1, 0, 0), 7);
        EDGE.is("mud that is silted up", low.berth(2, 0, 9999), 2);
        EDGE.is("dock that is silted up", low.berth(3, 0, 9999), 7);
    }

    private static void silt() {
        EDGE.term(8, "has DEPTH less SILT by n by 10, cut down, 0 at least");
        SoundHarbour x = Check.harbour("stone 99 silt 9;stone 9 silt 1;stone 3 silt 7;stone 0 silt 9;stone 99;");
        int[][] due = {{0, 0, 99}, {0, 1, 99}, {0, 2, 98}, {0, 10, 90}, {0, 11, 90}, {0, 12, 89}, {0, 109, 1},
            {0, 110, 0}, {0, 111, 0}, {0, 112, 0}, {0, 9999, 0}, {1, 9, 9}, {1, 10, 8}, {1, 89, 1}, {1, 90, 0},
            {1, 9999, 0}, {2, 1, 3}, {2, 2, 2}, {2, 4, 1}, {2, 5, 0}, {2, 6, 0}, {3, 0, 0}, {3, 2, 0}, {3, 9999, 0},
            {4, 9999, 99}};
        for (int[] one : due) {
            EDGE.is("berth " + one[0] + " on DAY " + one[1], x.berth(one[0], 0, one[1]), one[2]);
        }
    }

    private static void loads() {
        EDGE.promise(9, "A LOAD is told: true. False: it is not 0 to 99.");
        SoundHarbour x = Check.harbour("ship 5 10 0 1 sink 1;ship 5 10 0 1;person;stone 19;");
        EDGE.is("99", x.load(0, 99), true);
        EDGE.is("LOAD", x.ship(0, 5), 99);
        EDGE.is("the other's", x.ship(1, 5), 0);
        EDGE.is("100", x.load(0, 100), false);
        EDGE.is("-1", x.load(0, -1), false);
        for (int far : FAR) {
            EDGE.is("" + far, x.load(0, far), false);
        }
        EDGE.is("it stays", x.ship(0, 5), 99);
        EDGE.is("0", x.load(0, 0), true);
        EDGE.is("LOAD", x.ship(0, 5), 0);
        EDGE.is("no EVENT", x.count(7), 0);
        EDGE.is("no STATUS", x.count(9) + x.count(10) + x.count(11), 0);
        EDGE.noSuch("ship 2", () -> x.load(2, 0));
        EDGE.noSuch("ship -1, load -1", () -> x.load(-1, -1));
        EDGE.term(9, "by each 10 of its LOAD (0 to 99; 0 at first) its KEEL is so much deeper");
        int[][] due = {{0, 0}, {9, 0}, {10, 1}, {19, 1}, {20, 2}, {89, 8}, {90, 9}, {99, 9}};
        for (int[] one : due) {
            SoundHarbour y = Check.harbour("ship 5 10 0 1 sink 1;ship 5 10 0 1 sink 9;person;stone " + (10 + one[1])
                    + ";stone " + (9 + one[1]) + ";stone " + (10 + 9 * one[1]) + ";stone " + (9 + 9 * one[1]) + ";");
            y.load(0, one[0]);
            y.load(1, one[0]);
            EDGE.is("LOAD " + one[0], y.safe(0, 0, 0, 0, 0, 0), true);
            EDGE.is("LOAD " + one[0] + ", 1 less", y.safe(0, 0, 1, 0, 0, 0), false);
            EDGE.is("LOAD " + one[0] + ", SINK 9", y.safe(0, 1, 2, 0, 0, 0), true);
            EDGE.is("LOAD " + one[0] + ", SINK 9, 1 less", y.safe(0, 1, 3, 0, 0, 0), false);
        }
    }

    private static void refused(String call, SoundHarbour x, java.util.function.IntSupplier event) {
        int before = x.count(10);
        String state = Edges.stateBehindStatus(x);
        EDGE.is(call, event.getAsInt(), NONE);
        EDGE.is(call + ", STATUS 1", x.count(10), before + 1);
        EDGE.is(call + ", STATUS 0 and 2", x.count(9) + x.count(11), 0);
        EDGE.same(call + ", nothing changes", Edges.stateBehindStatus(x), state);
    }

    private static void leads() {
        EDGE.promise(10, "A LEAD: how many EVENTS there are.");
        SoundHarbour x = Check.harbour("ship 0 60 0 1;ship 0 60 0 1;person;person;");
        EDGE.is("the first", x.lead(0, 0, 30, true), 1);
        EDGE.is("the second", x.lead(0, 1, 30, true), 2);
        x.word(0, 1, 0, 5, true, 0);
        EDGE.is("behind a WORD", x.lead(1, 0, 30, true), 4);
        EDGE.promise(10, "NONE (STATUS 1): there are 80, the depth, he lowered one there already, it can't be.");
        refused("all but the first at once", x, () -> x.lead(0, 0, 0, false));
        EDGE.noSuch("no such PERSON", () -> x.lead(2, 0, 0, false));
        EDGE.noSuch("no such SHIP", () -> x.lead(0, 2, 0, false));
        EDGE.noSuch("PERSON -1", () -> x.lead(-1, 0, 30, true));
        EDGE.noSuch("SHIP -1", () -> x.lead(0, -1, 30, true));
        EDGE.is("an exception is no STATUS", x.count(10), 1);
        EDGE.is("nor an EVENT", x.count(7), 4);
    }

    private static void eightyLeadsAndWords() {
        EDGE.term(10, "EVENTS (at most 80), in order.");
        SoundHarbour x = Check.harbour("ship 0 60 0 1;person;person;");
        for (int i = 1; i <= 79; i++) {
            x.word(0, 1, 0, 5, true, 0);
        }
        EDGE.is("a LEAD is the 80th", x.lead(0, 0, 30, true), 80);
        refused("a LEAD as the 81st", x, () -> x.lead(1, 0, 30, true));
        refused("a WORD as the 81st", x, () -> x.word(0, 1, 0, 5, true, 0));
        EDGE.is("time 80", x.span(0, 0, 80, 0), 30);
        EDGE.is("time 79", x.span(0, 0, 79, 0), 0);
        EDGE.is("undo()", x.undo(), 79);
        EDGE.is("a WORD is the 80th", x.word(0, 1, 0, 6, true, 0), 80);
        EDGE.is("it is the last", x.span(1, 0, 80, 0) * 100 + x.span(1, 0, 79, 0), 605);
    }

    private static void depths() {
        EDGE.term(10, "to a depth d (1 to 60)");
        for (int depth : new int[] {0, -1, 61, Integer.MIN_VALUE, Integer.MAX_VALUE}) {
            for (boolean touches : new boolean[] {false, true}) {
                SoundHarbour x = Check.harbour("ship 0 60 0 1;person;person;");
                refused("a LEAD to " + depth + ", " + touches, x, () -> x.lead(0, 0, depth, touches));
                refused("a WORD of " + depth + ", " + touches, x, () -> x.word(0, 1, 0, depth, touches, 0));
            }
        }
        for (int depth : new int[] {1, 60}) {
            for (boolean touches : new boolean[] {false, true}) {
                SoundHarbour x = Check.harbour("ship 0 60 0 1;person;person;");
                EDGE.is("a LEAD to " + depth + ", " + touches, x.lead(0, 0, depth, touches), 1);
                EDGE.is("a WORD of " + depth + ", " + touches, x.word(0, 1, 0, depth, touches, 0), 2);
            }
        }
        EDGE.term(10, "it TOUCHES (KEEL is d or more) or not (less than d)");
        SoundHarbour x = Check.harbour("ship 0 60 0 1;ship 0 60 0 1;ship 0 60 0 1;ship 0 60 0 1;person;");
        x.lead(0, 0, 1, true);
        x.lead(0, 1, 1, false);
        x.lead(0, 2, 60, true);
        x.lead(0, 3, 60, false);
        int[][] due = {{1, 60}, {0, 0}, {60, 60}, {0, 59}};
        for (int ship = 0; ship < 4; ship++) {
            EDGE.is("least of ship " + ship, x.span(0, ship, 4, 0), due[ship][0]);
            EDGE.is("greatest of ship " + ship, x.span(0, ship, 4, 1), due[ship][1]);
        }
    }

    private static void oneLeadBesideEach() {
        EDGE.term(10, "(once beside each;");
        SoundHarbour x = Check.harbour("ship 0 60 0 1;ship 0 60 0 1;person;person;");
        x.word(0, 1, 0, 5, true, 0);
        x.word(1, 0, 0, 5, true, 0);
        EDGE.is("WORDS are no LEADS", x.lead(0, 0, 30, true), 3);
        refused("the same again", x, () -> x.lead(0, 0, 30, true));
        refused("to another depth", x, () -> x.lead(0, 0, 40, false));
        EDGE.is("beside another ship", x.lead(0, 1, 30, true), 4);
        EDGE.is("another person", x.lead(1, 0, 30, true), 5);
        refused("he again", x, () -> x.lead(1, 0, 31, true));
        x.undo();
        EDGE.is("again if it is undone", x.lead(1, 0, 31, true), 5);
        SoundHarbour y = Check.harbour("ship 5 10 0 1;person;");
        y.lead(0, 0, 5, false);
        EDGE.is("one that was refused isn't lowered", y.lead(0, 0, 6, false), 1);
    }

    private static void leadsThatCannotBe() {
        EDGE.term(10, "one by which no KEEL of the SHIP would be left by all LEADS can't be.");
        SoundHarbour x = Check.harbour("ship 5 10 0 1;person;person;");
        refused("touches above HIGH", x, () -> x.lead(0, 0, 11, true));
        refused("doesn't touch at LOW", x, () -> x.lead(0, 0, 5, false));
        EDGE.is("touches at HIGH", x.lead(0, 0, 10, true), 1);
        refused("another's LEAD is true, too", x, () -> x.lead(1, 0, 10, false));
        EDGE.is("what tells nothing may be", x.lead(1, 0, 11, false), 2);
        SoundHarbour ends = Check.harbour("ship 0 0 0 1;ship 60 60 0 1;person;");
        refused("KEEL 0 touches at 1", ends, () -> ends.lead(0, 0, 1, true));
        refused("KEEL 60 doesn't touch at 60", ends, () -> ends.lead(0, 1, 60, false));
        EDGE.is("KEEL 0 doesn't touch at 1", ends.lead(0, 0, 1, false), 1);
        EDGE.is("KEEL 60 touches at 60", ends.lead(0, 1, 60, true), 2);
        SoundHarbour y = Check.harbour("ship 5 10 0 1;person;person;person;person;");
        y.word(0, 1, 0, 60, true, 0);
        EDGE.is("WORDS keep none out", y.lead(1, 0, 6, false), 2);
        EDGE.is("one KEEL", y.ship(0, 7), 5);
        refused("against it", y, () -> y.lead(2, 0, 6, true));
        EDGE.is("with it", y.lead(2, 0, 5, true), 3);
        y.undo();
        y.undo();
        EDGE.is("it is undone", y.lead(2, 0, 6, true), 2);
    }

    private static void loadsDoNotMatter() {
        EDGE.term(10, "LOADS don't matter, it is taken of the KEEL without)");
        SoundHarbour x = Check.harbour("ship 5 10 0 1 sink 9;person;person;");
        x.load(0, 99);
        refused("touches above HIGH", x, () -> x.lead(0, 0, 11, true));
        EDGE.is("doesn't touch at 6", x.lead(0, 0, 6, false), 1);
        EDGE.is("THE SPAN", x.span(0, 0, 1, 1), 5);
        EDGE.is("THE TRUE SPAN", x.ship(0, 6) * 100 + x.ship(0, 7), 505);
        EDGE.is("ODDS", x.odds(1, 0, 11, 0), 0);
    }

    private static void words() {
        EDGE.promise(11, "A WORD: likewise; NONE, too: he sells to himself, the price.");
        SoundHarbour x = Check.harbour("ship 5 10 0 1;person;person;");
        refused("to himself", x, () -> x.word(0, 0, 0, 7, true, 5));
        refused("the other one to himself", x, () -> x.word(1, 1, 0, 7, true, 5));
        refused("all at once", x, () -> x.word(0, 0, 0, 0, true, -1));
        SoundHarbour dear = Check.harbour("ship 5 10 0 1;person;person;");
        for (int price : new int[] {-1, 1000, Integer.MIN_VALUE, Integer.MAX_VALUE}) {
            refused("price " + price, dear, () -> dear.word(0, 1, 0, 7, true, price));
        }
        EDGE.is("price 0", x.word(0, 1, 0, 7, true, 0), 1);
        EDGE.is("price 999", x.word(0, 1, 0, 7, true, 999), 2);
        EDGE.is("to each other", x.word(1, 0, 0, 7, true, 5), 3);
        EDGE.promise(11, "NoSuchElementException: also no such buyer.");
        EDGE.noSuch("buyer 2", () -> x.word(0, 2, 0, 7, true, 5));
        EDGE.noSuch("buyer -1", () -> x.word(0, -1, 0, 7, true, 5));
        EDGE.noSuch("seller 2", () -> x.word(2, 0, 0, 7, true, 5));
        EDGE.noSuch("seller -1", () -> x.word(-1, 0, 0, 7, true, 5));
        EDGE.noSuch("both are none", () -> x.word(2, 2, 0, 7, true, 5));
        EDGE.noSuch("ship 1, to himself", () -> x.word(0, 0, 1, 7, true, 5));
        EDGE.noSuch("ship -1, no price", () -> x.word(0, 1, -1, 7, true, -1));
        EDGE.noSuch("buyer 2, no depth", () -> x.word(0, 2, 0, 0, true, 5));
        EDGE.is("an exception is no STATUS", x.count(10), 3);
        EDGE.is("nor an EVENT", x.count(7), 3);
    }

    private static void wordsMayLie() {
        EDGE.term(11, "a PERSON sells another one a WORD of a SHIP, a depth, that it TOUCHES or not");
        SoundHarbour x = Check.harbour("ship 5 10 0 1;person;person;");
        EDGE.is("who has no LEAD", x.word(0, 1, 0, 7, true, 0), 1);
        EDGE.is("the same again", x.word(0, 1, 0, 7, true, 0), 2);
        EDGE.is("the opposite", x.word(0, 1, 0, 7, false, 0), 3);
        EDGE.is("that no KEEL bears", x.word(1, 0, 0, 11, true, 0), 4);
        x.lead(0, 0, 8, true);
        EDGE.is("against his own LEAD", x.word(0, 1, 0, 8, false, 0), 6);
        EDGE.is("THE TRUE SPAN is by LEADS alone", x.ship(0, 6) * 100 + x.ship(0, 7), 810);
        EDGE.is("the seller knows nothing by it", x.span(0, 0, 3, 2), 6);
    }

    private static void undoing() {
        EDGE.promise(12, "The last EVENT is undone: how many are left.");
        SoundHarbour x = Check.harbour("fee 3;ship 5 10 0 1;person;person;");
        x.load(0, 50);
        x.name(0, 5, 6);
        x.lead(0, 0, 8, true);
        x.word(0, 1, 0, 8, false, 9);
        x.lead(1, 0, 9, true);
        EDGE.is("a LEAD", x.undo(), 2);
        EDGE.is("THE TRUE SPAN", x.ship(0, 6), 8);
        EDGE.is("what he paid", x.person(1, 0), 9);
        EDGE.illegal("time 3 is no more", () -> x.span(0, 0, 3, 0));
        EDGE.is("a WORD", x.undo(), 1);
        EDGE.is("what he was paid", x.person(0, 1), 0);
        EDGE.is("what the buyer knows", x.span(1, 0, 1, 2), 6);
        EDGE.is("the first", x.undo(), 0);
        EDGE.is("LOADS and NAMES are no EVENTS", x.ship(0, 5) * 10 + x.names(NONE), 501);
        EDGE.promise(12, "NONE: there is none.");
        String before = Edges.state(x);
        EDGE.is("undo()", x.undo(), NONE);
        EDGE.is("undo() again", x.undo(), NONE);
        EDGE.same("nothing changes, STATUS neither", Edges.state(x), before);
        EDGE.is("EVENTS begin again", x.lead(0, 0, 8, true), 1);
        EDGE.is("undo()", x.undo(), 0);
    }

    private static void spans() {
        EDGE.promise(13, "its least KEEL (what 0), its greatest (1), how many (2); NONE of 0 and 1: it is empty.");
        SoundHarbour x = Check.harbour("ship 0 60 0 1;ship 7 7 0 1;person;person;");
        EDGE.is("least", x.span(0, 0, 0, 0), 0);
        EDGE.is("greatest", x.span(0, 0, 0, 1), 60);
        EDGE.is("how many", x.span(0, 0, 0, 2), 61);
        EDGE.is("one KEEL, least", x.span(0, 1, 0, 0), 7);
        EDGE.is("one KEEL, greatest", x.span(0, 1, 0, 1), 7);
        EDGE.is("one KEEL, how many", x.span(0, 1, 0, 2), 1);
        x.word(0, 1, 1, 7, false, 0);
        EDGE.is("empty, least", x.span(1, 1, 1, 0), NONE);
        EDGE.is("empty, greatest", x.span(1, 1, 1, 1), NONE);
        EDGE.is("empty, how many", x.span(1, 1, 1, 2), 0);
        EDGE.promise(13, "NoSuchElementException: also another what.");
        EDGE.noSuch("what 3", () -> x.span(0, 0, 0, 3));
        EDGE.noSuch("what -1", () -> x.span(0, 0, 0, -1));
        EDGE.noSuch("what 3 of an empty one", () -> x.span(1, 1, 1, 3));
        EDGE.promise(13, "IllegalArgumentException (behind that): a time is not 0 to as many EVENTS as there are "
                + "(as everywhere).");
        EDGE.illegal("time 2 of 1", () -> x.span(0, 0, 2, 0));
        EDGE.illegal("time -1", () -> x.span(0, 0, -1, 0));
        EDGE.noSuch("what 3, time 2", () -> x.span(0, 0, 2, 3));
        EDGE.noSuch("no person, time 2", () -> x.span(2, 0, 2, 0));
        EDGE.noSuch("no ship, time -1", () -> x.span(0, 2, -1, 0));
        for (int far : FAR) {
            EDGE.illegal("time " + far, () -> x.span(0, 0, far, 0));
            EDGE.noSuch("what " + far + ", time " + far, () -> x.span(0, 0, far, far));
        }
        x.undo();
        EDGE.is("time 0 of 0", x.span(1, 1, 0, 2), 1);
        EDGE.illegal("time 1 of 0", () -> x.span(0, 0, 1, 0));
    }

    private static void spansByThen() {
        EDGE.term(13, "by his own LEADS and all WORDS sold to him by then, taken as true.");
        SoundHarbour x = Check.harbour("ship 5 10 0 1;ship 5 10 0 1;person;person;person;");
        x.lead(0, 0, 6, true);
        x.word(1, 0, 0, 10, false, 0);
        x.word(0, 1, 0, 7, true, 0);
        x.word(2, 0, 1, 8, true, 0);
        x.lead(1, 0, 8, true);
        x.word(2, 0, 0, 6, false, 0);
        int[][] first = {{5, 10}, {6, 10}, {6, 9}, {6, 9}, {6, 9}, {6, 9}, {NONE, NONE}};
        int[][] second = {{5, 10}, {5, 10}, {5, 10}, {7, 10}, {7, 10}, {8, 10}, {8, 10}};
        for (int time = 0; time <= 6; time++) {
            EDGE.is("person 0, least at " + time, x.span(0, 0, time, 0), first[time][0]);
            EDGE.is("person 0, greatest at " + time, x.span(0, 0, time, 1), first[time][1]);
            EDGE.is("person 1, least at " + time, x.span(1, 0, time, 0), second[time][0]);
            EDGE.is("person 1, greatest at " + time, x.span(1, 0, time, 1), second[time][1]);
            EDGE.is("person 2, how many at " + time, x.span(2, 0, time, 2), 6);
            EDGE.is("ship 1, least at " + time, x.span(0, 1, time, 0), time < 4 ? 5 : 8);
        }
    }

    private static void emptySpans() {
        EDGE.term(13, "It may be empty.");
        SoundHarbour x = Check.harbour("ship 0 60 0 1;ship 0 9 0 1;person;person;");
        x.word(0, 1, 0, 1, false, 0);
        EDGE.is("KEEL 0 alone", x.span(1, 0, 1, 1) + x.span(1, 0, 1, 2), 1);
        x.word(0, 1, 0, 60, true, 0);
        EDGE.is("far apart", x.span(1, 0, 2, 2), 0);
        x.word(0, 1, 0, 30, true, 0);
        EDGE.is("it stays so", x.span(1, 0, 3, 0), NONE);
        x.word(0, 1, 1, 10, true, 0);
        EDGE.is("above HIGH", x.span(1, 1, 4, 2), 0);
        x.undo();
        x.undo();
        x.undo();
        EDGE.is("not by what is undone", x.span(1, 0, 1, 2), 1);
        SoundHarbour y = Check.harbour("ship 5 10 0 1;person;person;");
        y.word(0, 1, 0, 7, true, 0);
        y.lead(1, 0, 7, false);
        EDGE.is("a LEAD against a WORD", y.span(1, 0, 2, 2), 0);
        EDGE.is("THE TRUE SPAN isn't", y.ship(0, 6) * 100 + y.ship(0, 7), 506);
    }

    private static void liars() {
        EDGE.promise(14, "LIARS, as bits.");
        EDGE.is("nobody is there", new SoundHarbour().liars(), 0);
        EDGE.is("no ships", Check.harbour("person;person;").liars(), 0);
        EDGE.is("no persons", Check.harbour("ship 1 1 1 1;").liars(), 0);
        for (int seller = 0; seller < 4; seller++) {
            SoundHarbour x = Check.harbour("ship 5 10 0 1;person;person;person;person;");
            x.word(seller, (seller + 1) % 4, 0, 10, true, 0);
            EDGE.is("what may be is no lie", x.liars(), 0);
            x.word(seller, (seller + 1) % 4, 0, 11, true, 0);
            EDGE.is("PERSON " + seller, x.liars(), 1 << seller);
            x.undo();
            EDGE.is("not if it is undone", x.liars(), 0);
        }
        SoundHarbour all = Check.harbour("ship 5 10 0 1;person;person;person;person;");
        for (int seller = 0; seller < 4; seller++) {
            all.word(seller, (seller + 1) % 4, 0, 5, false, 0);
        }
        EDGE.is("all four", all.liars(), 15);
        EDGE.term(14, "such that, all WORDS that they sold left out, for each SHIP some KEEL is left by all LEADS and WORDS");
        SoundHarbour x = Check.harbour("ship 5 10 0 1;ship 5 10 0 1;person;person;person;");
        x.lead(0, 0, 9, true);
        x.word(1, 2, 0, 9, false, 0);
        EDGE.is("against a LEAD of which neither knows", x.liars(), 2);
        x.undo();
        x.undo();
        x.word(1, 2, 1, 7, true, 0);
        x.word(0, 1, 1, 7, false, 0);
        EDGE.is("to two buyers, of the last ship", x.liars(), 1);
        x.word(0, 2, 0, 11, true, 0);
        EDGE.is("he lies of another ship, too", x.liars(), 1);
        x.word(1, 2, 0, 11, true, 0);
        EDGE.is("so does the other", x.liars(), 3);
        for (int ship = 0; ship < 5; ship++) {
            SoundHarbour five = Check.harbour("ship 5 9 0 1;ship 6 9 0 1;ship 7 9 0 1;ship 8 9 0 1;ship 9 9 0 1;person;person;");
            five.word(1, 0, ship, 5 + ship, true, 0);
            EDGE.is("five ships, no lie of ship " + ship, five.liars(), 0);
            five.word(1, 0, ship, 5 + ship, false, 0);
            EDGE.is("five ships, a lie of ship " + ship, five.liars(), 2);
        }
    }

    private static void liarsOfAsSmall() {
        EDGE.term(14, "of as small the least as bits.");
        SoundHarbour x = Check.harbour("ship 5 10 0 1;person;person;person;person;");
        x.word(3, 0, 0, 8, true, 0);
        x.word(2, 0, 0, 8, false, 0);
        EDGE.is("2 or 3", x.liars(), 4);
        x.word(1, 0, 0, 8, false, 0);
        EDGE.is("3, or 1 and 2", x.liars(), 8);
        x.word(0, 1, 0, 8, true, 0);
        EDGE.is("0 and 3, or 1 and 2", x.liars(), 6);
        SoundHarbour y = Check.harbour("ship 5 10 0 1;person;person;person;person;");
        y.word(0, 1, 0, 8, true, 0);
        y.word(1, 0, 0, 8, true, 0);
        y.word(2, 0, 0, 8, false, 0);
        y.word(3, 0, 0, 8, false, 0);
        EDGE.is("0 and 1, or 2 and 3", y.liars(), 3);
        EDGE.term(14, "LIARS: the smallest set of PERSONS");
        y.undo();
        EDGE.is("one above two with fewer bits", y.liars(), 4);
        SoundHarbour three = Check.harbour("ship 5 10 0 1;person;person;person;person;");
        three.word(0, 1, 0, 8, true, 0);
        three.word(1, 0, 0, 8, true, 0);
        three.word(2, 0, 0, 8, true, 0);
        three.word(3, 0, 0, 8, false, 0);
        EDGE.is("one above three with fewer bits", three.liars(), 8);
    }
}
