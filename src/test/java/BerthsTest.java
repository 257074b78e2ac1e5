/** Promises 15 to 23: safe, most, row, odds, worth, best, until, bears, aground. */
public final class BerthsTest {
    private static final Check CHECK = new Check();
    private static final int NONE = SoundHarbour.NONE;

    public static void main(String[] args) {
        safety();
        safetyRefused();
        theMost();
        theRow();
        waiting();
        theRowIsKept();
        odds();
        worth();
        best();
        until();
        bears();
        aground();
        agroundByWords();
        CHECK.end();
    }

    private static void safety() {
        SoundHarbour x = Check.harbour("tide 12;clear 1;ship 5 10 0 3 sink 1;person;person;stone 10 silt 5;");
        CHECK.is("low water", x.safe(0, 0, 0, 0, 0, 0), false);
        CHECK.is("hours 1 to 3", x.safe(0, 0, 0, 1, 0, 0), true);
        CHECK.is("hours 9 to 11", x.safe(0, 0, 0, 9, 0, 0), true);
        CHECK.is("hours 10 to 12", x.safe(0, 0, 0, 10, 0, 0), false);
        CHECK.is("hours 99 to 101, all high", x.safe(0, 0, 0, 99, 0, 0), true);
        CHECK.is("day 3", x.safe(0, 0, 0, 1, 3, 0), true);
        CHECK.is("day 4", x.safe(0, 0, 0, 1, 4, 0), false);
        x.load(0, 10);
        CHECK.is("loaded by 10, all it can bear", x.safe(0, 0, 0, 1, 0, 0), true);
        x.load(0, 20);
        CHECK.is("loaded by 20", x.safe(0, 0, 0, 1, 0, 0), false);
        x.word(1, 0, 0, 8, false, 0);
        CHECK.is("by a word", x.safe(0, 0, 0, 1, 0, 1), true);
        CHECK.is("before the word", x.safe(0, 0, 0, 1, 0, 0), false);
        CHECK.is("for another one", x.safe(1, 0, 0, 1, 0, 1), false);
        x.word(1, 0, 0, 8, true, 0);
        CHECK.is("by an empty span", x.safe(0, 0, 0, 6, 0, 2), false);
    }

    private static void safetyRefused() {
        SoundHarbour x = Check.harbour("ship 5 10 0 3;person;stone 10;");
        CHECK.noSuch("no person", () -> x.safe(1, 0, 0, 0, 0, 9));
        CHECK.noSuch("no ship", () -> x.safe(0, 1, 0, 0, 0, 9));
        CHECK.noSuch("no berth", () -> x.safe(0, 0, 1, 0, 0, 9));
        CHECK.noSuch("no hour", () -> x.safe(0, 0, 0, 100, 0, 9));
        CHECK.noSuch("no hour", () -> x.safe(0, 0, 0, -1, 0, 9));
        CHECK.noSuch("no day", () -> x.safe(0, 0, 0, 0, 10000, 9));
        CHECK.noSuch("no day", () -> x.safe(0, 0, 0, 0, -1, 9));
        CHECK.illegal("no time", () -> x.safe(0, 0, 0, 0, 0, 1));
        CHECK.illegal("no time", () -> x.safe(0, 0, 0, 0, 0, -1));
    }

    private static void row(String call, SoundHarbour x, String berths, String waits) {
        StringBuilder gotBerths = new StringBuilder();
        StringBuilder gotWaits = new StringBuilder();
        for (int ship = 0; ship < x.count(0); ship++) {
            gotBerths.append(x.row(ship, 0) == NONE ? "-" : "" + x.row(ship, 0));
            gotWaits.append(x.row(ship, 1) == NONE ? "-" : "" + x.row(ship, 1));
        }
        CHECK.is(call + ", berths " + gotBerths + " for " + berths, gotBerths.toString().equals(berths), true);
        CHECK.is(call + ", waits " + gotWaits + " for " + waits, gotWaits.toString().equals(waits), true);
    }

    private static void theMost() {
        SoundHarbour x = Check.harbour("ship 5 9 0 2;ship 5 5 1 2;ship 5 7 2 2;person;stone 7 silt 9;stone 9 silt 1;");
        CHECK.is("all three", x.most(0, 0), 3);
        row("all three", x, "101", "000");
        CHECK.is("the first silts up", x.most(0, 4), 2);
        row("the first silts up", x, "1-1", "0-0");
        CHECK.is("none is left", x.most(0, 9999), 0);
        row("none is left", x, "---", "---");
        SoundHarbour y = Check.harbour("person;stone 5;");
        CHECK.is("no ships", y.most(0, 0), 0);
        CHECK.noSuch("row without ships", () -> y.row(0, 0));
        SoundHarbour z = Check.harbour("ship 0 0 0 1;person;");
        CHECK.is("no berths", z.most(0, 0), 0);
        row("no berths", z, "-", "-");
        CHECK.noSuch("no person", () -> x.most(1, 0));
        CHECK.noSuch("no day", () -> x.most(0, -1));
        CHECK.noSuch("no day", () -> x.most(0, 10000));
        SoundHarbour five = Check.harbour("wait 2;ship 1 1 0 12;ship 2 2 0 12;ship 3 3 0 12;ship 4 4 0 12;"
                + "ship 5 5 0 12;person;stone 5;stone 4;stone 3;stone 2;stone 1;");
        CHECK.is("five ships, each its own berth", five.most(0, 0), 5);
        row("five ships, each its own berth", five, "43210", "00000");
        SoundHarbour late = Check.harbour("ship 1 1 23 12;ship 1 1 0 11;ship 1 1 10 1;person;dock 1;");
        CHECK.is("hours go on above 23", late.most(0, 0), 2);
        row("hours go on above 23", late, "00-", "00-");
        SoundHarbour empty = Check.harbour("ship 0 9 0 1;ship 0 9 0 1;person;person;stone 9;stone 9;");
        empty.word(1, 0, 0, 10, true, 0);
        CHECK.is("of one he knows nothing that can be", empty.most(0, 0), 1);
        row("of one he knows nothing that can be", empty, "-0", "-0");
        CHECK.is("for the other one", empty.most(1, 0), 2);
        row("for the other one", empty, "01", "00");
    }

    private static void theRow() {
        // Two can lie there whichever is left out: the earlier ships come first.
        SoundHarbour x = Check.harbour("ship 1 1 0 1;ship 1 1 0 1;ship 1 1 0 1;person;stone 1;stone 1;");
        CHECK.is("two of three", x.most(0, 0), 2);
        row("two of three", x, "01-", "00-");
        // The first row of berths counts before the waits: both in berth 0, though the second waits.
        SoundHarbour y = Check.harbour("wait 2;ship 1 1 0 2;ship 1 1 0 2;person;stone 1;stone 1;");
        y.most(0, 0);
        row("berths before waits", y, "00", "02");
        // One long stay is given up for two short ones.
        SoundHarbour z = Check.harbour("ship 1 1 0 12;ship 1 1 0 5;ship 1 1 5 5;person;stone 1;");
        CHECK.is("two short ones", z.most(0, 0), 2);
        row("two short ones", z, "-00", "-00");
    }

    private static void waiting() {
        SoundHarbour x = Check.harbour("wait 1;ship 1 1 0 2;ship 1 1 1 2;person;stone 5;");
        CHECK.is("the second waits", x.most(0, 0), 2);
        row("the second waits", x, "00", "01");
        SoundHarbour y = Check.harbour("tide 6;wait 2;ship 5 5 23 1;ship 5 5 1 1;person;stone 3;");
        CHECK.is("they wait for the tide", y.most(0, 0), 1);
        row("they wait for the tide", y, "-0", "-1");
        SoundHarbour two = Check.harbour("tide 6;wait 2;ship 5 5 0 1;ship 5 5 0 1;ship 5 5 10 1;person;"
                + "stone 4;stone 3;");
        CHECK.is("each berth has its own hour", two.most(0, 0), 3);
        row("each berth has its own hour", two, "000", "120");
        SoundHarbour each = Check.harbour("tide 6;wait 2;ship 5 5 0 2;ship 5 5 0 2;person;stone 4;stone 3;");
        CHECK.is("they wait in two berths", each.most(0, 0), 2);
        row("they wait in two berths", each, "01", "12");
        SoundHarbour z = Check.harbour("tide 6;wait 2;ship 2 2 0 1;ship 1 1 1 1;person;stone 0;");
        CHECK.is("the tide and each other", z.most(0, 0), 2);
        row("the tide and each other", z, "00", "20");
    }

    private static void theRowIsKept() {
        SoundHarbour x = Check.harbour("ship 5 10 0 1;person;person;stone 8;");
        CHECK.noSuch("no row yet", () -> x.row(0, 0));
        x.lead(0, 0, 9, false);
        CHECK.is("THE MOST", x.most(0, 0), 1);
        x.image();
        x.undo();
        x.worth(0, 0, 9);
        x.best(0, 0);
        row("worth, best, undo leave it", x, "0", "0");
        x.restore();
        x.most(1, 0);
        row("for another one", x, "-", "-");
        x.restore();
        row("an image doesn't keep it", x, "-", "-");
        CHECK.noSuch("most of no person", () -> x.most(2, 0));
        row("an exception leaves it", x, "-", "-");
        CHECK.noSuch("no ship", () -> x.row(1, 0));
        CHECK.noSuch("no ship", () -> x.row(-1, 0));
        CHECK.noSuch("what 2", () -> x.row(0, 2));
        CHECK.noSuch("what -1", () -> x.row(0, -1));
    }

    private static void odds(SoundHarbour x, int person, int d, int upper, int lower) {
        CHECK.is("odds of " + d + ", upper", x.odds(person, 0, d, 0), upper);
        CHECK.is("odds of " + d + ", lower", x.odds(person, 0, d, 1), lower);
    }

    private static void odds() {
        SoundHarbour x = Check.harbour("ship 5 10 0 1;person;person;");
        odds(x, 0, 1, 1, 1);
        odds(x, 0, 5, 1, 1);
        odds(x, 0, 6, 5, 6);
        odds(x, 0, 7, 2, 3);
        odds(x, 0, 8, 1, 2);
        odds(x, 0, 9, 1, 3);
        odds(x, 0, 10, 1, 6);
        odds(x, 0, 11, 0, 1);
        odds(x, 0, 60, 0, 1);
        x.word(0, 1, 0, 9, false, 5);
        odds(x, 1, 7, 1, 2);
        odds(x, 0, 7, 2, 3);
        x.word(0, 1, 0, 9, true, 5);
        odds(x, 1, 7, 0, 1);
        CHECK.illegal("d 0", () -> x.odds(0, 0, 0, 0));
        CHECK.illegal("d 61", () -> x.odds(0, 0, 61, 1));
        CHECK.noSuch("what 2", () -> x.odds(0, 0, 0, 2));
        CHECK.noSuch("what -1", () -> x.odds(0, 0, 5, -1));
        CHECK.noSuch("no ship", () -> x.odds(0, 1, 0, 0));
        CHECK.noSuch("no person", () -> x.odds(2, 0, 0, 0));
    }

    private static void worth() {
        SoundHarbour x = Check.harbour("ship 5 10 0 2;ship 1 1 0 1;person;person;stone 9;stone 0;");
        // Beside the second ship there is no room for the first, wherever its keel ends.
        CHECK.is("no berth is left", x.worth(0, 0, 9), 0);
        SoundHarbour y = Check.harbour("clear 1;ship 5 10 0 2;ship 9 9 0 2;person;person;stone 9;stone 10;");
        CHECK.is("keels 5 to 8", y.worth(0, 0, 9), 666);
        CHECK.is("keels 5 to 7", y.worth(0, 0, 8), 500);
        CHECK.is("keel 5", y.worth(0, 0, 6), 166);
        CHECK.is("keels 5 to 9 are too deep", y.worth(0, 0, 10), 0);
        CHECK.is("no keel is below 5", y.worth(0, 0, 5), 0);
        CHECK.is("no keel is below 1", y.worth(0, 0, 1), 0);
        CHECK.is("it tells nothing", y.worth(0, 0, 60), 0);
        CHECK.is("the second lies there already", y.worth(0, 1, 9), 0);
        y.load(0, 0);
        y.lead(0, 0, 6, true);
        CHECK.is("a lead beside it is no matter", y.worth(0, 0, 9), 600);
        y.word(0, 1, 0, 7, false, 0);
        CHECK.is("it is safe already", y.worth(1, 0, 6), 0);
        y.word(0, 1, 0, 7, true, 0);
        CHECK.is("of an empty span", y.worth(1, 0, 9), 0);
        CHECK.illegal("d 0", () -> y.worth(0, 0, 0));
        CHECK.illegal("d 61", () -> y.worth(0, 0, 61));
        CHECK.noSuch("no ship", () -> y.worth(0, 2, 0));
        CHECK.noSuch("no person", () -> y.worth(2, 0, 0));
    }

    private static void best(SoundHarbour x, String call, int person, int lead, int worth) {
        CHECK.is(call + ", lead", x.best(person, 0), lead);
        CHECK.is(call + ", worth", x.best(person, 1), worth);
    }

    private static void best() {
        SoundHarbour x = Check.harbour("ship 5 10 0 2;ship 5 14 0 2;ship 3 12 0 2;person;person;stone 9;");
        best(x, "the deepest that is safe", 0, 10, 833);
        x.lead(0, 0, 10, true);
        best(x, "beside the third", 0, 210, 700);
        best(x, "for another one", 1, 10, 833);
        x.lead(0, 2, 12, true);
        best(x, "beside the second", 0, 110, 500);
        x.lead(0, 1, 10, false);
        best(x, "he lowered one beside all", 0, NONE, NONE);
        SoundHarbour like = Check.harbour("ship 5 10 0 2;ship 5 10 0 2;person;stone 9;");
        best(like, "of like ones the least ship", 0, 10, 833);
        SoundHarbour none = Check.harbour("ship 5 10 0 2;ship 5 10 0 2;person;stone 4;");
        best(none, "none is worth anything", 0, 1, 0);
        none.lead(0, 0, 7, true);
        best(none, "none is worth anything", 0, 101, 0);
        best(Check.harbour("person;"), "no ships", 0, NONE, NONE);
        best(Check.harbour("ship 0 60 0 1;person;stone 59;"), "the deepest lead", 0, 60, 983);
        SoundHarbour again = Check.harbour("ship 5 10 0 2;ship 9 9 0 2;person;stone 9 silt 9;");
        best(again, "the berth is the second ship's", 0, 1, 0);
        again.load(1, 99);
        best(again, "it doesn't sink", 0, 1, 0);
        Check.tell(again, "ship 5 10 0 2;ship 9 9 0 2 sink 1;person;stone 9;");
        again.load(1, 10);
        best(again, "the second can't lie there by its load", 0, 10, 833);
        again.load(1, 0);
        best(again, "it can again", 0, 1, 0);
        CHECK.noSuch("what 2", () -> x.best(0, 2));
        CHECK.noSuch("what -1", () -> x.best(0, -1));
        CHECK.noSuch("no person", () -> x.best(2, 0));
    }

    private static void until() {
        SoundHarbour x = Check.harbour("clear 1;ship 5 9 0 2 sink 1;person;person;"
                + "stone 12 silt 5;mud 8 silt 1;dock 8;stone 9;stone 99 silt 1;");
        CHECK.is("until day 5", x.until(0, 0, 0), 5);
        CHECK.is("until day 9", x.until(0, 0, 1), 9);
        CHECK.is("never", x.until(0, 0, 2), NONE);
        CHECK.is("just not", x.until(0, 0, 3), NONE);
        CHECK.is("long", x.until(0, 0, 4), 899);
        x.load(0, 10);
        CHECK.is("with load", x.until(0, 0, 0), 3);
        x.lead(0, 0, 9, false);
        CHECK.is("by a lead", x.until(0, 0, 0), 5);
        CHECK.is("for another one", x.until(1, 0, 0), 3);
        SoundHarbour y = Check.harbour("tide 24;ship 5 9 4 1;person;person;stone 99 silt 9;");
        CHECK.is("by the tide alone", y.until(0, 0, 0), 9999);
        y.word(1, 0, 0, 10, true, 0);
        CHECK.is("of an empty span", y.until(0, 0, 0), NONE);
        CHECK.noSuch("no person", () -> x.until(2, 0, 0));
        CHECK.noSuch("no ship", () -> x.until(0, 1, 0));
        CHECK.noSuch("no berth", () -> x.until(0, 0, 5));
    }

    private static void bears() {
        SoundHarbour x = Check.harbour("clear 1;ship 5 5 0 1 sink 2;ship 5 5 0 1;person;person;stone 14 silt 9;mud 3;mud 4;");
        CHECK.is("four times 2", x.bears(0, 0, 0), 49);
        x.load(0, 99);
        CHECK.is("whatever its load", x.bears(0, 0, 0), 49);
        CHECK.is("not even without", x.bears(0, 0, 1), NONE);
        CHECK.is("just without", x.bears(0, 0, 2), 9);
        CHECK.is("it doesn't sink", x.bears(0, 1, 2), 99);
        CHECK.is("it would not lie there", x.bears(0, 1, 1), NONE);
        CHECK.is("LOAD stays", x.ship(0, 5), 99);
        x.word(1, 0, 0, 6, true, 0);
        CHECK.is("of an empty span", x.bears(0, 0, 0), NONE);
        CHECK.noSuch("no person", () -> x.bears(2, 0, 0));
        CHECK.noSuch("no ship", () -> x.bears(0, 2, 0));
        CHECK.noSuch("no berth", () -> x.bears(0, 0, 3));
    }

    private static void aground() {
        SoundHarbour x = Check.harbour("clear 2;tide 12;ship 5 10 0 2 sink 1;person;person;stone 8;");
        CHECK.is("keel 8 isn't", x.aground(0, 0, 0, 0, 8, 0), 0);
        CHECK.is("keel 9 is", x.aground(0, 0, 0, 0, 9, 0), 1);
        CHECK.is("at high water", x.aground(0, 0, 0, 5, 10, 0), 0);
        CHECK.is("keel 4 can't be", x.aground(0, 0, 0, 0, 4, 0), NONE);
        CHECK.is("keel 11 can't be", x.aground(0, 0, 0, 0, 11, 0), NONE);
        CHECK.is("keel 5, the least", x.aground(0, 0, 0, 0, 5, 0), 0);
        x.load(0, 19);
        CHECK.is("keel 8 and a load", x.aground(0, 0, 0, 0, 8, 0), 1);
        CHECK.is("keel 7 and a load", x.aground(0, 0, 0, 0, 7, 0), 0);
        x.lead(1, 0, 8, true);
        CHECK.is("keel 7 can't be by a lead", x.aground(0, 0, 0, 0, 7, 0), NONE);
        x.word(1, 0, 0, 5, false, 0);
        CHECK.is("by an empty span", x.aground(0, 0, 0, 0, 9, 2), 1);
        CHECK.noSuch("no person", () -> x.aground(2, 0, 0, 0, 0, 9));
        CHECK.noSuch("no ship", () -> x.aground(0, 1, 0, 0, 0, 9));
        CHECK.noSuch("no berth", () -> x.aground(0, 0, 1, 0, 0, 9));
        CHECK.noSuch("no hour", () -> x.aground(0, 0, 0, 100, 0, 9));
        CHECK.noSuch("no hour", () -> x.aground(0, 0, 0, -1, 0, 9));
        CHECK.illegal("no time", () -> x.aground(0, 0, 0, 0, 0, 3));
        CHECK.illegal("no time", () -> x.aground(0, 0, 0, 0, 0, -1));
    }

    private static void agroundByWords() {
        SoundHarbour x = Check.harbour("clear 1;ship 5 10 0 1;ship 5 10 0 1;person;person;person;person;stone 8;");
        x.word(3, 0, 0, 8, false, 0);
        CHECK.is("he sold it", x.aground(0, 0, 0, 0, 9, 1), 13);
        CHECK.is("it wasn't told then", x.aground(0, 0, 0, 0, 9, 0), 1);
        SoundHarbour edge = Check.harbour("ship 5 10 0 1;person;person;stone 7;");
        edge.word(1, 0, 0, 8, false, 0);
        CHECK.is("a keel of the word's own depth", edge.aground(0, 0, 0, 0, 8, 1), 11);
        CHECK.is("the keel just below", edge.aground(0, 0, 0, 0, 7, 1), 0);
        CHECK.is("it wasn't told to him", x.aground(1, 0, 0, 0, 9, 1), 1);
        x.word(2, 0, 1, 8, false, 0);
        CHECK.is("of another ship", x.aground(0, 0, 0, 0, 9, 2), 13);
        x.word(2, 0, 0, 9, false, 0);
        CHECK.is("false, but not enough", x.aground(0, 0, 0, 0, 9, 3), 13);
        x.word(3, 0, 0, 8, false, 0);
        CHECK.is("his two words, none alone", x.aground(0, 0, 0, 0, 9, 4), 2);
        CHECK.is("before the second", x.aground(0, 0, 0, 0, 9, 3), 13);
        x.undo();
        x.word(1, 0, 0, 7, false, 0);
        CHECK.is("two persons' words, none alone", x.aground(0, 0, 0, 0, 9, 4), 2);
        SoundHarbour y = Check.harbour("ship 5 10 0 1;person;person;person;stone 8;");
        y.word(2, 0, 0, 9, false, 0);
        y.word(1, 0, 0, 6, true, 0);
        CHECK.is("a true word besides", y.aground(0, 0, 0, 0, 10, 2), 12);
        CHECK.is("clear is no matter for the ground", y.aground(0, 0, 0, 0, 8, 2), 0);
        y.load(0, 10);
        CHECK.is("it doesn't sink", y.aground(0, 0, 0, 0, 10, 2), 12);
    }
}
