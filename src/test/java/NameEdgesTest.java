/** Promises 24 to 27: each sentence that names an edge of lost names, of STATUS or of an image. */
public final class NameEdgesTest {
    private static final Edges EDGE = new Edges();
    private static final int NONE = SoundHarbour.NONE;
    private static final int[] FAR = {Integer.MIN_VALUE, Integer.MIN_VALUE + 1, Integer.MAX_VALUE - 1, Integer.MAX_VALUE};

    public static void main(String[] args) {
        spansOfNames();
        spansThatAreRefused();
        namesThatAreNone();
        asManyAsShips();
        someKeelInCommon();
        rows();
        shipsOfAName();
        refusals();
        images();
        imagesAreApart();
        restoring();
        restoringNames();
        noImage();
        EDGE.end(24, 27);
    }

    private static void spansOfNames() {
        EDGE.promise(24, "A NAME's span is told: true.");
        SoundHarbour x = Check.harbour("ship 0 0 0 1;ship 60 60 0 1;");
        EDGE.is("0 to 60", x.name(0, 0, 60), true);
        EDGE.is("0 to 0", x.name(0, 0, 0), true);
        EDGE.is("it is ship 0", x.names(0), 1);
        EDGE.is("60 to 60", x.name(0, 60, 60), true);
        EDGE.is("it is ship 1", x.names(0), 2);
        EDGE.is("the last NAME", x.name(1, 0, 59), true);
        EDGE.is("it is ship 0", x.names(1), 1);
        EDGE.is("a wider one in its place", x.name(1, 0, 60), true);
        x.name(0, 0, 60);
        EDGE.is("all rows again", x.names(NONE), 2);
        EDGE.term(24, "of each a span of KEELS (0 to 60 at first)");
        SoundHarbour first = Check.harbour("ship 0 0 0 1;ship 60 60 0 1;ship 30 30 0 1;");
        EDGE.is("at first", first.names(NONE), 6);
        for (int name = 0; name < 3; name++) {
            EDGE.is("at first NAME " + name, first.names(name), 7);
        }
    }

    private static void spansThatAreRefused() {
        EDGE.promise(24, "False (STATUS 2): not 0 to 60, from above to.");
        int[][] wrong = {{-1, 5}, {5, 61}, {-1, 61}, {61, 61}, {-1, -1}, {5, 4}, {60, 0}, {1, 0}, {60, 59},
            {Integer.MIN_VALUE, 5}, {5, Integer.MAX_VALUE}, {Integer.MAX_VALUE, Integer.MIN_VALUE},
            {Integer.MIN_VALUE, Integer.MAX_VALUE}};
        SoundHarbour x = Check.harbour("ship 5 10 0 1;ship 20 30 0 1;person;");
        x.name(0, 10, 10);
        String before = Edges.stateBehindStatus(x);
        for (int i = 0; i < wrong.length; i++) {
            EDGE.is(wrong[i][0] + " to " + wrong[i][1], x.name(0, wrong[i][0], wrong[i][1]), false);
            EDGE.is("STATUS 2", x.count(11), i + 1);
            EDGE.is("it stays", x.names(0), 1);
        }
        EDGE.is("STATUS 0 and 1", x.count(9) + x.count(10), 0);
        EDGE.same("nothing else changes", Edges.stateBehindStatus(x), before);
        EDGE.is("one that is right", x.name(0, 4, 5), true);
        EDGE.is("counts for nothing", x.count(11), wrong.length);
    }

    private static void namesThatAreNone() {
        EDGE.promise(24, "NoSuchElementException: no such NAME.");
        SoundHarbour x = Check.harbour("ship 5 10 0 1;ship 20 30 0 1;");
        EDGE.noSuch("NAME 2", () -> x.name(2, 0, 60));
        EDGE.noSuch("NAME 2, 5 to 4", () -> x.name(2, 5, 4));
        EDGE.noSuch("NAME -1", () -> x.name(-1, 0, 60));
        for (int far : FAR) {
            EDGE.noSuch("NAME " + far, () -> x.name(far, 0, 60));
        }
        EDGE.is("no STATUS", x.count(11), 0);
        EDGE.noSuch("without SHIPS", () -> new SoundHarbour().name(0, 0, 60));
        EDGE.promise(25, "NoSuchElementException: no such NAME.");
        EDGE.noSuch("names(2)", () -> x.names(2));
        EDGE.noSuch("names(-2)", () -> x.names(-2));
        for (int far : FAR) {
            EDGE.noSuch("names(" + far + ")", () -> x.names(far));
        }
        EDGE.noSuch("without SHIPS", () -> new SoundHarbour().names(0));
        EDGE.is("NONE is one", x.names(NONE), 2);
    }

    private static void asManyAsShips() {
        EDGE.term(25, "LOST NAMES 0, 1 .. (as many as SHIPS)");
        int[] rows = {1, 1, 2, 6, 24, 120};
        for (int ships = 0; ships <= 5; ships++) {
            int names = ships;
            SoundHarbour x = Check.harbour("ship 0 60 0 1;".repeat(ships) + "person;person;person;person;");
            EDGE.is("ROWS of " + ships + " SHIPS", x.names(NONE), rows[ships]);
            for (int name = 0; name < ships; name++) {
                EDGE.is("NAME " + name + " of " + ships, x.names(name), (1 << ships) - 1);
            }
            EDGE.noSuch("NAME " + ships + " of " + ships, () -> x.names(names));
            EDGE.noSuch("a span of NAME " + ships + " of " + ships, () -> x.name(names, 0, 60));
        }
        EDGE.term(25, "how many (1 without SHIPS)");
        EDGE.is("a new object", new SoundHarbour().names(NONE), 1);
        EDGE.is("persons and berths alone", Check.harbour("person;stone 1;").names(NONE), 1);
    }

    private static void someKeelInCommon() {
        EDGE.term(25, "such that its span and THE TRUE SPAN have some KEEL in common");
        int[][] spans = {{0, 4, 0}, {0, 5, 1}, {4, 5, 1}, {5, 5, 1}, {6, 9, 1}, {0, 60, 1}, {10, 10, 1}, {10, 11, 1},
            {11, 11, 0}, {11, 60, 0}};
        SoundHarbour x = Check.harbour("ship 5 10 0 1;person;person;");
        for (int[] one : spans) {
            x.name(0, one[0], one[1]);
            EDGE.is(one[0] + " to " + one[1], x.names(NONE), one[2]);
        }
        x.lead(0, 0, 7, true);
        x.lead(1, 0, 9, false);
        x.word(0, 1, 0, 8, true, 0);
        int[][] narrow = {{0, 6, 0}, {0, 7, 1}, {7, 7, 1}, {8, 60, 1}, {9, 60, 0}};
        for (int[] one : narrow) {
            x.name(0, one[0], one[1]);
            EDGE.is("by LEADS " + one[0] + " to " + one[1], x.names(NONE), one[2]);
        }
        x.undo();
        x.undo();
        EDGE.is("one is undone", x.names(NONE), 1);
    }

    private static void rows() {
        EDGE.term(25, "ROWS: all ways to give each NAME a SHIP of its own");
        SoundHarbour x = Check.harbour("ship 5 10 0 1;ship 10 20 0 1;ship 20 30 0 1;");
        x.name(0, 0, 10);
        EDGE.is("NAME 0 is one of two", x.names(NONE), 4);
        x.name(1, 0, 10);
        EDGE.is("and NAME 1", x.names(NONE), 2);
        x.name(2, 0, 10);
        EDGE.is("three NAMES for two SHIPS", x.names(NONE), 0);
        x.name(2, 0, 60);
        EDGE.is("the third again", x.names(NONE), 2);
        x.name(1, 0, 9);
        EDGE.is("NAME 1 is ship 0", x.names(NONE), 1);
        x.name(1, 0, 4);
        EDGE.is("NAME 1 is no ship", x.names(NONE), 0);
    }

    private static void shipsOfAName() {
        EDGE.promise(25, "ROWS: how many (name NONE), SHIPS that a NAME has in any, as bits.");
        SoundHarbour x = Check.harbour("ship 5 10 0 1;ship 10 20 0 1;ship 20 30 0 1;");
        x.name(0, 0, 10);
        x.name(1, 0, 10);
        int[] due = {3, 3, 4};
        for (int name = 0; name < 3; name++) {
            EDGE.is("NAME " + name + " by the others", x.names(name), due[name]);
        }
        x.name(2, 0, 10);
        for (int name = 0; name < 3; name++) {
            EDGE.is("no ROW, NAME " + name, x.names(name), 0);
        }
        x.name(0, 0, 60);
        EDGE.is("NAME 0 has what is left", x.names(0), 4);
        SoundHarbour five = Check.harbour("ship 1 1 0 1;ship 2 2 0 1;ship 3 3 0 1;ship 4 4 0 1;ship 5 5 0 1;");
        for (int name = 0; name < 5; name++) {
            five.name(name, 5 - name, 5 - name);
        }
        EDGE.is("one ROW of five", five.names(NONE), 1);
        for (int name = 0; name < 5; name++) {
            EDGE.is("NAME " + name + " of five", five.names(name), 1 << 4 - name);
        }
    }

    private static void status(SoundHarbour x, String call, int texts, int events, int names) {
        EDGE.is(call + ", STATUS 0", x.count(9), texts);
        EDGE.is(call + ", STATUS 1", x.count(10), events);
        EDGE.is(call + ", STATUS 2", x.count(11), names);
    }

    private static void refusals() {
        EDGE.term(26, "STATUS: how many calls were refused: 0 TEXTS with a FAULT, 1 EVENTS, 2 spans of NAMES.");
        SoundHarbour x = Check.harbour("ship 5 10 0 1;person;person;stone 9;");
        status(x, "at first", 0, 0, 0);
        Check.tell(x, "person;person;person;person;person;x");
        status(x, "a text with FAULTS", 1, 0, 0);
        x.lead(0, 0, 0, true);
        status(x, "a LEAD", 1, 1, 0);
        x.word(0, 0, 0, 0, true, -1);
        status(x, "a WORD", 1, 2, 0);
        x.name(0, 61, -1);
        status(x, "a span of a NAME", 1, 2, 1);
        x.load(0, 100);
        x.undo();
        x.restore();
        x.aground(0, 0, 0, 0, 99, 0);
        x.until(0, 0, 0);
        for (int i = 0; i <= 25; i++) {
            x.feed(0, 0, 0, 0, 0);
        }
        status(x, "what else answers false or NONE", 1, 2, 1);
        EDGE.illegal("harbour(501)", () -> x.harbour(501));
        EDGE.noSuch("lead(2, 0, 0, true)", () -> x.lead(2, 0, 0, true));
        EDGE.noSuch("word(0, 2, 0, 0, true, 0)", () -> x.word(0, 2, 0, 0, true, 0));
        EDGE.noSuch("name(1, 1, 0)", () -> x.name(1, 1, 0));
        status(x, "exceptions", 1, 2, 1);
        x.lead(0, 0, 7, true);
        x.word(0, 1, 0, 7, true, 0);
        x.name(0, 1, 2);
        status(x, "what is taken", 1, 2, 1);
    }

    private static void images() {
        EDGE.promise(26, "AN IMAGE is kept, in place of another one.");
        SoundHarbour x = Check.harbour("ship 5 10 0 1;person;person;");
        x.image();
        x.lead(0, 0, 7, true);
        x.image();
        x.lead(1, 0, 9, false);
        EDGE.is("restore()", x.restore(), true);
        EDGE.is("the second one", x.count(7), 1);
        EDGE.is("restore() again", x.restore(), true);
        EDGE.is("the first is no more", x.count(7), 1);
        x.undo();
        x.image();
        x.lead(0, 0, 8, true);
        x.restore();
        EDGE.is("one with fewer EVENTS", x.count(7), 0);
        EDGE.term(26, "AN IMAGE keeps EVENTS, LOADS, NAMES, STATUS.");
        SoundHarbour y = full();
        String before = Edges.state(y);
        y.image();
        EDGE.same("it changes nothing", Edges.state(y), before);
        change(y);
        EDGE.is("restore()", y.restore(), true);
        EDGE.is("EVENTS", y.count(7), 2);
        EDGE.is("LOADS", y.ship(0, 5) * 100 + y.ship(1, 5), 9930);
        EDGE.is("NAMES", y.names(0) * 10 + y.names(1), 12);
        status(y, "it is back", 1, 1, 1);
        EDGE.is("what the last one paid", y.person(1, 0), 5);
        EDGE.is("THE TRUE SPAN", y.ship(0, 6) * 100 + y.ship(0, 7), 510);
        EDGE.is("THE SPAN", y.span(1, 1, 2, 0) * 100 + y.span(1, 1, 2, 1), 507);
    }

    private static SoundHarbour full() {
        SoundHarbour x = Check.harbour("fee 3;ship 5 10 0 1;ship 5 30 0 1;person;person;stone 10;");
        Check.tell(x, "x");
        x.lead(0, 1, 5, true);
        x.word(0, 1, 1, 8, false, 5);
        x.lead(0, 1, 9, true);
        x.load(0, 99);
        x.load(1, 30);
        x.name(0, 5, 7);
        x.name(1, 11, 60);
        x.name(0, 7, 5);
        x.most(1, 0);
        return x;
    }

    private static void change(SoundHarbour x) {
        x.undo();
        x.undo();
        x.lead(1, 0, 8, true);
        x.word(1, 0, 0, 9, false, 7);
        x.word(1, 0, 0, 9, false, 0);
        x.load(0, 0);
        x.load(1, 50);
        x.name(0, 0, 60);
        x.name(1, 0, 60);
        x.name(1, 60, 0);
        x.lead(1, 0, 0, true);
        Check.tell(x, "person;y");
        x.most(0, 9999);
    }

    private static void imagesAreApart() {
        EDGE.promise(27, "It is as the IMAGE again: true.");
        SoundHarbour x = full();
        String before = Edges.stateBehindStatus(x);
        x.image();
        change(x);
        Check.feed(x, "person;");
        EDGE.is("restore()", x.restore(), true);
        EDGE.same("all but THE ROW", Edges.stateBehindStatus(x).replaceAll("lies [-0-9]+ [-0-9]+", ""),
                before.replaceAll("lies [-0-9]+ [-0-9]+", ""));
        EDGE.is("the tape isn't kept", x.count(8), 20);
        EDGE.is("nor the fault's place", x.fault(), 7);
        EDGE.is("the tape's text has a FAULT", x.harbour(3), 1);
        change(x);
        EDGE.is("the image doesn't change with it", x.restore(), true);
        EDGE.is("EVENTS", x.count(7), 2);
        status(x, "again", 1, 1, 1);
    }

    private static void restoring() {
        EDGE.term(27, "EVENTS (at most 80), in order.");
        SoundHarbour x = Check.harbour("ship 0 60 0 1;person;person;");
        for (int i = 1; i <= 79; i++) {
            x.word(0, 1, 0, 1, true, i);
        }
        x.word(1, 0, 0, 2, true, 80);
        x.image();
        for (int i = 1; i <= 80; i++) {
            x.undo();
        }
        for (int i = 1; i <= 80; i++) {
            x.word(1, 0, 0, 50, false, 1);
        }
        EDGE.is("an image of 80", x.restore(), true);
        EDGE.is("EVENTS", x.count(7), 80);
        EDGE.is("no room for another", x.word(0, 1, 0, 5, true, 0), NONE);
        EDGE.is("their prices", x.person(0, 1) * 100 + x.person(1, 1), 316080);
        EDGE.is("the last one", x.span(0, 0, 80, 0) * 10 + x.span(0, 0, 79, 0), 20);
        EDGE.is("the others", x.span(1, 0, 80, 0) * 100 + x.span(1, 0, 80, 1), 160);
        EDGE.is("undo()", x.undo(), 79);
        x.image();
        EDGE.is("an image of 79", x.word(0, 1, 0, 5, true, 0), 80);
        EDGE.is("restore()", x.restore(), true);
        EDGE.is("room for one", x.word(0, 1, 0, 5, true, 0), 80);
        EDGE.term(27, "(once beside each;");
        SoundHarbour y = Check.harbour("ship 0 60 0 1;person;");
        y.image();
        y.lead(0, 0, 5, true);
        y.restore();
        EDGE.is("he may lower one again", y.lead(0, 0, 6, false), 1);
        y.image();
        y.undo();
        y.restore();
        EDGE.is("he lowered one in the image", y.lead(0, 0, 6, false), NONE);
    }

    private static void restoringNames() {
        EDGE.term(27, "AN IMAGE keeps EVENTS, LOADS, NAMES, STATUS.");
        int[][] spans = {{0, 10, 1}, {20, 60, 2}, {5, 20, 3}};
        for (int[] one : spans) {
            for (int name = 0; name < 2; name++) {
                SoundHarbour x = Check.harbour("ship 5 10 0 1;ship 20 30 0 1;");
                x.name(name, one[0], one[1]);
                x.image();
                x.name(name, 0, 60);
                EDGE.is("a wider span", x.names(name), 3);
                x.restore();
                EDGE.is("NAME " + name + " from " + one[0] + " to " + one[1], x.names(name), one[2]);
                x.name(name, 0, 0);
                EDGE.is("a span of no ship", x.names(name), 0);
                x.restore();
                EDGE.is("NAME " + name + " from " + one[0] + " to " + one[1] + " again", x.names(name), one[2]);
            }
        }
    }

    private static void noImage() {
        EDGE.promise(27, "False: there is none.");
        SoundHarbour x = full();
        String before = Edges.state(x);
        EDGE.is("restore()", x.restore(), false);
        EDGE.same("nothing changes, STATUS neither", Edges.state(x), before);
        x.image();
        EDGE.is("there is one", x.restore(), true);
        EDGE.is("it stays", x.restore(), true);
        Check.tell(x, "person;x");
        EDGE.is("a text with a FAULT leaves it", x.restore(), true);
        EDGE.illegal("harbour(1)", () -> x.harbour(1));
        EDGE.is("an exception leaves it", x.restore(), true);
        Check.tell(x, "person;");
        EDGE.is("it is gone by another harbour", x.restore(), false);
        SoundHarbour y = new SoundHarbour();
        EDGE.is("a new object", y.restore(), false);
        y.image();
        EDGE.is("an image of nothing", y.restore(), true);
        EDGE.is("a text of no byte", y.harbour(0), 0);
        EDGE.is("it is gone by it, too", y.restore(), false);
    }
}
