/** Promises 15 to 23: each sentence that names an edge of what is safe, of THE MOST, of leads' worth or of a grounding. */
public final class BerthEdgesTest {
    private static final Edges EDGE = new Edges();
    private static final int NONE = SoundHarbour.NONE;
    private static final int[] FAR = {Integer.MIN_VALUE, Integer.MIN_VALUE + 1, Integer.MAX_VALUE - 1, Integer.MAX_VALUE};

    public static void main(String[] args) {
        noMoreThanTheBerthHas();
        eachHourOfItsStay();
        safeAtATime();
        emptySpansAreNotSafe();
        safeRefused();
        theMost();
        theMostWithNothing();
        hoursOfBerths();
        waiting();
        theRowOfBerths();
        theRowOfWaits();
        theRowIsKept();
        odds();
        oddsRefused();
        worth();
        worthOfNothing();
        worthRefused();
        theBestLead();
        theBestOfLikeOnes();
        howLong();
        theMostLoad();
        notAground();
        hisFault();
        aSellersFault();
        nobodysFault();
        agroundRefused();
        EDGE.end(15, 23);
    }

    private static void noMoreThanTheBerthHas() {
        EDGE.term(15, "the deepest KEEL of THE SPAN, with what its LOAD adds, and CLEAR, is no more than the BERTH has");
        SoundHarbour x = Check.harbour("ship 0 10 0 1;person;stone 10;stone 9;mud 8;mud 7;dock 10;");
        boolean[] due = {true, false, true, false, true};
        for (int berth = 0; berth < 5; berth++) {
            EDGE.is("KEEL 10 in berth " + berth, x.safe(0, 0, berth, 0, 0, 0), due[berth]);
        }
        SoundHarbour clear = Check.harbour("clear 20;ship 0 60 0 1 sink 9;person;stone 80;stone 79;stone 89;stone 88;");
        EDGE.is("CLEAR 20", clear.safe(0, 0, 0, 0, 0, 0), true);
        EDGE.is("CLEAR 20, 1 less", clear.safe(0, 0, 1, 0, 0, 0), false);
        clear.load(0, 19);
        EDGE.is("CLEAR 20 and a LOAD", clear.safe(0, 0, 2, 0, 0, 0), true);
        EDGE.is("CLEAR 20 and a LOAD, 1 less", clear.safe(0, 0, 3, 0, 0, 0), false);
        SoundHarbour deep = Check.harbour("clear 20;tide 40;ship 60 60 0 12 sink 9;person;dock 99;");
        deep.load(0, 69);
        EDGE.is("60, 54 and 20 in 139", deep.safe(0, 0, 0, 0, 0, 0), true);
        deep.load(0, 70);
        EDGE.is("60, 63 and 20 in 139", deep.safe(0, 0, 0, 0, 0, 0), false);
        SoundHarbour none = Check.harbour("ship 0 0 0 1;person;stone 0 silt 9;");
        EDGE.is("KEEL 0 in no water", none.safe(0, 0, 0, 0, 9999, 0), true);
        SoundHarbour silt = Check.harbour("ship 0 10 0 1;person;stone 11 silt 1;");
        EDGE.is("DAY 19", silt.safe(0, 0, 0, 0, 19, 0), true);
        EDGE.is("DAY 20", silt.safe(0, 0, 0, 0, 20, 0), false);
        EDGE.is("DAY 9999", silt.safe(0, 0, 0, 0, 9999, 0), false);
    }

    private static void eachHourOfItsStay() {
        EDGE.term(15, "if in each hour of its STAY");
        SoundHarbour x = Check.harbour("tide 6;ship 3 3 9 4;ship 3 3 0 12;ship 3 3 9 1;person;stone 0;dock 0;");
        for (int hour = 0; hour <= 99; hour++) {
            int first = hour % 12;
            EDGE.is("4 hours from " + hour, x.safe(0, 0, 0, hour, 0, 0), first >= 3 && first <= 6);
            EDGE.is("1 hour from " + hour, x.safe(0, 2, 0, hour, 0, 0), first >= 3 && first <= 9);
        }
        for (int hour = 0; hour <= 12; hour++) {
            EDGE.is("12 hours from " + hour, x.safe(0, 1, 0, hour, 0, 0), false);
            EDGE.is("12 hours in a dock from " + hour, x.safe(0, 1, 1, hour, 0, 0), true);
        }
        SoundHarbour late = Check.harbour("tide 6;ship 3 3 0 7;ship 3 3 0 8;person;stone 0;");
        EDGE.is("7 hours from 99 on", late.safe(0, 0, 0, 99, 0, 0), true);
        EDGE.is("8 hours from 99 on", late.safe(0, 1, 0, 99, 0, 0), false);
    }

    private static void safeAtATime() {
        EDGE.promise(15, "Whether a SHIP is SAFE.");
        SoundHarbour x = Check.harbour("ship 5 10 0 1;person;person;stone 8;");
        x.word(1, 0, 0, 10, false, 0);
        x.word(1, 0, 0, 9, false, 0);
        x.lead(1, 0, 9, true);
        boolean[] due = {false, false, true, true};
        for (int time = 0; time <= 3; time++) {
            EDGE.is("at time " + time, x.safe(0, 0, 0, 0, 0, time), due[time]);
            EDGE.is("for the other at time " + time, x.safe(1, 0, 0, 0, 0, time), false);
        }
    }

    private static void emptySpansAreNotSafe() {
        EDGE.term(15, "if THE SPAN is empty, it isn't");
        SoundHarbour x = Check.harbour("ship 0 0 0 1;ship 0 60 0 1;person;person;dock 99;");
        EDGE.is("KEEL 0", x.safe(0, 0, 0, 0, 0, 0), true);
        x.word(1, 0, 0, 1, true, 0);
        EDGE.is("no KEEL", x.safe(0, 0, 0, 0, 0, 1), false);
        EDGE.is("before", x.safe(0, 0, 0, 0, 0, 0), true);
        x.word(1, 0, 1, 60, true, 0);
        x.word(1, 0, 1, 1, false, 0);
        EDGE.is("60 or more and less than 1", x.safe(0, 1, 0, 0, 0, 3), false);
        EDGE.is("THE MOST", x.most(0, 0), 0);
        EDGE.is("HOW LONG", x.until(0, 0, 0), NONE);
        EDGE.is("THE MOST LOAD", x.bears(0, 0, 0), NONE);
        EDGE.is("for the other", x.most(1, 0), 1);
    }

    private static void safeRefused() {
        EDGE.promise(15, "throws NoSuchElementException, IllegalArgumentException`");
        SoundHarbour x = Check.harbour("ship 5 10 0 1;ship 5 10 0 1;person;stone 9;");
        int[][] none = {{1, 0, 0, 0, 0}, {-1, 0, 0, 0, 0}, {0, 2, 0, 0, 0}, {0, -1, 0, 0, 0}, {0, 0, 1, 0, 0},
            {0, 0, -1, 0, 0}, {0, 0, 0, 100, 0}, {0, 0, 0, -1, 0}, {0, 0, 0, 0, 10000}, {0, 0, 0, 0, -1}};
        for (int[] one : none) {
            for (int time : new int[] {0, 1, -1}) {
                EDGE.noSuch("safe(" + java.util.Arrays.toString(one) + ", " + time + ")",
                        () -> x.safe(one[0], one[1], one[2], one[3], one[4], time));
            }
        }
        EDGE.illegal("time 1 of 0", () -> x.safe(0, 0, 0, 0, 0, 1));
        EDGE.illegal("time -1", () -> x.safe(0, 0, 0, 0, 0, -1));
        for (int far : FAR) {
            EDGE.illegal("time " + far, () -> x.safe(0, 0, 0, 0, 0, far));
            EDGE.noSuch("person " + far, () -> x.safe(far, 0, 0, 0, 0, far));
            EDGE.noSuch("ship " + far, () -> x.safe(0, far, 0, 0, 0, far));
            EDGE.noSuch("berth " + far, () -> x.safe(0, 0, far, 0, 0, far));
            EDGE.noSuch("hour " + far, () -> x.safe(0, 0, 0, far, 0, far));
            EDGE.noSuch("DAY " + far, () -> x.safe(0, 0, 0, 0, far, far));
        }
        EDGE.is("hour 99, DAY 9999", x.safe(0, 1, 0, 99, 9999, 0), false);
    }

    private static void most(String call, String text, int due, String row) {
        SoundHarbour x = Check.harbour(text);
        EDGE.is(call, x.most(0, 0), due);
        EDGE.same(call, Edges.row(x), row);
    }

    private static void theMost() {
        EDGE.term(16, "as many SHIPS as can be, SAFE all (for him now, on a DAY)");
        most("a deep one is left out", "ship 0 10 0 1;ship 0 9 0 1;ship 0 8 0 1;person;stone 9;stone 8;", 2, "-01 -00");
        most("the last ship in the last berth", "ship 9 9 0 1;ship 9 9 0 1;ship 9 9 0 1;ship 9 9 0 1;ship 1 1 0 1;person;"
                + "stone 0;stone 0;stone 0;stone 0;stone 1;", 1, "----4 ----0");
        most("five in five", "ship 5 5 0 9;ship 4 4 0 9;ship 3 3 0 9;ship 2 2 0 9;ship 1 1 0 9;person;"
                + "stone 1;stone 2;stone 3;stone 4;stone 5;", 5, "43210 00000");
        most("five in one", "ship 1 1 0 2;ship 1 1 2 2;ship 1 1 4 2;ship 1 1 6 2;ship 1 1 8 12;person;dock 1;", 5,
                "00000 00000");
        most("many before the first", "ship 1 1 0 12;ship 1 1 0 3;ship 1 1 3 3;ship 1 1 6 3;ship 1 1 9 3;person;mud 1;", 4,
                "-0000 -0000");
        SoundHarbour x = Check.harbour("ship 0 10 0 1 sink 1;ship 0 9 0 1;person;person;stone 10 silt 1;stone 9 silt 1;");
        EDGE.is("DAY 0", x.most(0, 0), 2);
        EDGE.is("DAY 9", x.most(0, 9), 2);
        EDGE.is("DAY 10", x.most(0, 10), 1);
        EDGE.same("DAY 10", Edges.row(x), "-0 -0");
        EDGE.is("DAY 20", x.most(0, 20), 0);
        EDGE.is("DAY 9999", x.most(0, 9999), 0);
        x.load(0, 10);
        EDGE.is("with a LOAD", x.most(0, 0), 1);
        x.word(1, 0, 0, 10, false, 0);
        EDGE.is("by a WORD", x.most(0, 0), 2);
        EDGE.is("for who doesn't know", x.most(1, 0), 1);
        EDGE.promise(16, "int most(int person, int day) throws NoSuchElementException");
        EDGE.noSuch("person 2", () -> x.most(2, 0));
        EDGE.noSuch("person -1", () -> x.most(-1, 0));
        EDGE.noSuch("DAY -1", () -> x.most(0, -1));
        EDGE.noSuch("DAY 10000", () -> x.most(0, 10000));
        for (int far : FAR) {
            EDGE.noSuch("person " + far, () -> x.most(far, 0));
            EDGE.noSuch("DAY " + far, () -> x.most(0, far));
        }
    }

    private static void theMostWithNothing() {
        EDGE.promise(16, "THE MOST; THE ROW is kept.");
        SoundHarbour noShips = Check.harbour("person;stone 9;");
        EDGE.is("no ships", noShips.most(0, 0), 0);
        EDGE.noSuch("no ships, row(0, 0)", () -> noShips.row(0, 0));
        SoundHarbour noBerths = Check.harbour("ship 0 0 0 1;ship 0 0 0 1;person;wait 2;");
        EDGE.is("no berths", noBerths.most(0, 0), 0);
        EDGE.same("no berths", Edges.row(noBerths), "-- --");
        SoundHarbour none = Check.harbour("ship 9 9 0 1;person;stone 8;");
        EDGE.is("none is SAFE", none.most(0, 0), 0);
        EDGE.same("none is SAFE", Edges.row(none), "- -");
        SoundHarbour x = Check.harbour("ship 9 9 0 1;person;stone 9 silt 9;");
        x.most(0, 0);
        EDGE.same("the first ROW", Edges.row(x), "0 0");
        x.most(0, 99);
        EDGE.same("another one in its place", Edges.row(x), "- -");
        SoundHarbour fewer = Check.harbour("ship 1 1 0 1;".repeat(5) + "person;stone 1;stone 1;stone 1;");
        EDGE.is("five ships", fewer.most(0, 0), 3);
        Check.tell(fewer, "ship 1 1 0 1;ship 1 1 0 1;ship 1 1 0 1;person;stone 1;");
        EDGE.is("fewer ships in another harbour", fewer.most(0, 0), 1);
        EDGE.same("fewer ships in another harbour", Edges.row(fewer), "0-- 0--");
    }

    private static void hoursOfBerths() {
        EDGE.term(16, "no two in one BERTH in one hour (hours from 0 on, not MOD 24)");
        most("one behind the other", "ship 1 1 0 2;ship 1 1 2 2;person;stone 1;", 2, "00 00");
        most("one hour in common", "ship 1 1 0 2;ship 1 1 1 2;person;stone 1;", 1, "0- 0-");
        most("the later one first", "ship 1 1 5 3;ship 1 1 2 3;person;stone 1;", 2, "00 00");
        most("the later one first, an hour in common", "ship 1 1 4 3;ship 1 1 2 3;person;stone 1;", 1, "0- 0-");
        most("one within the other", "ship 1 1 0 9;ship 1 1 4 1;person;stone 1;", 1, "0- 0-");
        most("hour 24 isn't hour 0", "ship 1 1 23 2;ship 1 1 0 1;person;stone 1;", 2, "00 00");
        most("hour 34 isn't hour 10", "ship 1 1 23 12;ship 1 1 0 11;person;stone 1;", 2, "00 00");
        most("up to hour 36", "wait 2;ship 1 1 23 12;ship 1 1 23 2;person;stone 1;", 2, "00 20");
        most("the like of two berths", "ship 1 1 0 2;ship 1 1 1 2;person;stone 1;stone 1;", 2, "01 00");
        most("the tide in hour 24", "tide 6;ship 1 1 23 2;ship 1 1 23 1;person;stone 0;", 1, "-0 -0");
    }

    private static void waiting() {
        EDGE.term(16, "each in a BERTH from ARRIVES on, or up to WAIT hours later");
        most("without WAIT", "ship 1 1 0 1;ship 1 1 0 1;ship 1 1 0 1;person;stone 1;", 1, "0-- 0--");
        most("WAIT 0", "wait 0;ship 1 1 0 1;ship 1 1 0 1;ship 1 1 0 1;person;stone 1;", 1, "0-- 0--");
        most("WAIT 1", "wait 1;ship 1 1 0 1;ship 1 1 0 1;ship 1 1 0 1;person;stone 1;", 2, "00- 01-");
        most("WAIT 2", "wait 2;ship 1 1 0 1;ship 1 1 0 1;ship 1 1 0 1;person;stone 1;", 3, "000 012");
        most("WAIT 2, four ships", "wait 2;ship 1 1 0 1;ship 1 1 0 1;ship 1 1 0 1;ship 1 1 0 1;person;stone 1;", 3,
                "000- 012-");
        most("WAIT 2, an hour too few", "wait 2;ship 1 1 0 3;ship 1 1 0 3;person;stone 1;", 1, "0- 0-");
        most("for the tide, an hour too few", "tide 6;wait 1;ship 2 2 0 1;person;stone 0;", 0, "- -");
        most("for the tide", "tide 6;wait 2;ship 2 2 0 1;person;stone 0;", 1, "0 2");
        most("not earlier", "tide 6;wait 2;ship 1 1 12 12;person;stone 0;", 0, "- -");
        most("for the tide in the first of two", "tide 6;wait 2;ship 2 2 0 1;person;stone 0;stone 1;", 1, "0 2");
        most("a dock keeps the tide", "tide 6;wait 2;ship 2 2 0 1;person;dock 0;stone 0;", 1, "0 0");
        most("for the tide in the last of five", "tide 6;wait 2;ship 7 7 0 1;person;stone 4;stone 4;stone 4;stone 4;stone 5;", 1,
                "4 2");
        most("from hour 25 on", "tide 6;wait 2;ship 1 1 23 3;person;stone 0;", 1, "0 2");
    }

    private static void theRowOfBerths() {
        EDGE.term(17, "of like ones the first as a row by SHIPS of BERTHS (none is behind all)");
        most("the first berth", "ship 1 1 0 1;person;stone 0;stone 1;stone 2;", 1, "1 0");
        most("none is behind the last berth", "ship 1 1 0 1;ship 1 1 0 1;person;stone 0;stone 0;stone 0;stone 0;stone 1;", 1,
                "4- 0-");
        most("the first ship has the first berth", "ship 1 1 0 1;ship 1 1 0 1;person;stone 1;stone 1;", 2, "01 00");
        most("many before the first berth", "ship 1 1 0 1;ship 2 2 0 1;person;stone 2;stone 1;", 2, "10 00");
        most("the first ships", "ship 1 1 0 1;ship 1 1 0 1;ship 1 1 0 1;ship 1 1 0 1;person;stone 1;stone 1;", 2, "01-- 00--");
        most("a later ship where the first can't be", "ship 9 9 0 1;ship 1 1 0 1;ship 1 1 0 1;person;stone 1;", 1, "-0- -0-");
        most("BERTHS before waiting", "wait 2;ship 1 1 0 2;ship 1 1 0 1;person;stone 1;stone 1;", 2, "00 02");
        most("BERTHS before waiting, three", "wait 1;ship 1 1 0 1;ship 1 1 0 1;ship 1 1 0 1;person;stone 1;stone 1;", 3,
                "001 010");
        most("a berth in which it must wait", "tide 6;wait 2;ship 2 2 0 1;person;stone 0;stone 9;", 1, "0 2");
    }

    private static void theRowOfWaits() {
        EDGE.term(17, "and of these the first as a row of hours of waiting.");
        most("no waiting without need", "wait 2;ship 1 1 0 1;ship 1 1 5 1;person;stone 1;", 2, "00 00");
        most("the first ship waits least", "wait 2;ship 1 1 0 1;ship 1 1 0 1;person;stone 1;", 2, "00 01");
        most("the first waits longer for the tide and the second", "tide 6;wait 2;ship 1 1 0 2;ship 1 1 0 1;person;stone 0;", 2,
                "00 21");
        most("it waits for a later ship", "wait 2;ship 1 1 1 2;ship 1 1 0 2;person;stone 1;", 2, "00 10");
        most("waits in two berths", "wait 1;ship 1 1 0 1;ship 1 1 0 1;ship 1 1 0 1;ship 1 1 0 1;person;stone 1;stone 1;", 4,
                "0011 0101");
        SoundHarbour x = Check.harbour("ship 9 9 0 1;ship 1 1 0 1;person;stone 1;");
        x.most(0, 0);
        EDGE.promise(17, "its BERTH (what 0; NONE), how long it waits (1; NONE).");
        EDGE.is("the BERTH of one without", x.row(0, 0), NONE);
        EDGE.is("the waiting of one without", x.row(0, 1), NONE);
        EDGE.is("the BERTH of another", x.row(1, 0), 0);
        EDGE.is("its waiting", x.row(1, 1), 0);
    }

    private static void theRowIsKept() {
        EDGE.promise(17, "Of a SHIP in THE ROW that is kept");
        SoundHarbour x = Check.harbour("ship 5 10 0 1;ship 5 8 0 1;person;person;stone 8;");
        x.most(0, 0);
        EDGE.same("at first", Edges.row(x), "-0 -0");
        x.lead(0, 0, 9, false);
        x.word(0, 1, 0, 9, false, 0);
        x.load(1, 50);
        x.name(0, 1, 2);
        x.worth(0, 0, 7);
        x.best(1, 0);
        x.until(0, 0, 0);
        x.undo();
        x.image();
        x.restore();
        EDGE.same("other calls leave it", Edges.row(x), "-0 -0");
        EDGE.noSuch("most(2, 0)", () -> x.most(2, 0));
        EDGE.noSuch("most(0, 10000)", () -> x.most(0, 10000));
        EDGE.same("most() that throws leaves it", Edges.row(x), "-0 -0");
        Check.tell(x, "x");
        EDGE.same("a text with a FAULT leaves it", Edges.row(x), "-0 -0");
        x.most(0, 0);
        EDGE.same("the next", Edges.row(x), "0- 0-");
        EDGE.promise(17, "NoSuchElementException: also none is kept, another what.");
        EDGE.noSuch("what 2", () -> x.row(0, 2));
        EDGE.noSuch("what -1", () -> x.row(0, -1));
        EDGE.noSuch("ship 2", () -> x.row(2, 0));
        EDGE.noSuch("ship -1", () -> x.row(-1, 0));
        for (int far : FAR) {
            EDGE.noSuch("ship " + far, () -> x.row(far, 0));
            EDGE.noSuch("what " + far, () -> x.row(0, far));
        }
        SoundHarbour y = Check.harbour("ship 5 10 0 1;person;stone 10;");
        EDGE.noSuch("none is kept yet", () -> y.row(0, 0));
        y.best(0, 0);
        y.worth(0, 0, 7);
        EDGE.noSuch("worth() and best() keep none", () -> y.row(0, 1));
        EDGE.noSuch("most(1, 0)", () -> y.most(1, 0));
        EDGE.noSuch("most() that throws keeps none", () -> y.row(0, 0));
        y.most(0, 0);
        Check.tell(y, "ship 5 10 0 1;person;stone 10;");
        EDGE.noSuch("it is gone by another harbour", () -> y.row(0, 0));
    }

    private static void odds(SoundHarbour x, String call, int person, int d, int upper, int lower) {
        EDGE.is(call + ", upper part", x.odds(person, 0, d, 0), upper);
        EDGE.is(call + ", lower part", x.odds(person, 0, d, 1), lower);
    }

    private static void odds() {
        EDGE.term(18, "ODDS that a KEEL is d or more, for a PERSON now: of the KEELS of THE SPAN so many, as a fraction in "
                + "lowest terms");
        SoundHarbour x = Check.harbour("ship 1 60 0 1;person;person;");
        odds(x, "all 60", 0, 1, 1, 1);
        odds(x, "59 of 60", 0, 2, 59, 60);
        odds(x, "58 of 60", 0, 3, 29, 30);
        odds(x, "30 of 60", 0, 31, 1, 2);
        odds(x, "24 of 60", 0, 37, 2, 5);
        odds(x, "1 of 60", 0, 60, 1, 60);
        x.lead(0, 0, 20, true);
        x.word(0, 1, 0, 31, false, 0);
        odds(x, "41 KEELS, d at the least", 0, 20, 1, 1);
        odds(x, "40 of 41", 0, 21, 40, 41);
        odds(x, "for the other, 10 of 30", 1, 21, 1, 3);
        odds(x, "for the other, none", 1, 31, 0, 1);
        SoundHarbour all = Check.harbour("ship 0 60 0 1;person;");
        odds(all, "60 of 61", 0, 1, 60, 61);
        odds(all, "1 of 61", 0, 60, 1, 61);
        SoundHarbour one = Check.harbour("ship 7 7 0 1;person;person;");
        odds(one, "the one KEEL", 0, 7, 1, 1);
        odds(one, "none of one", 0, 8, 0, 1);
        EDGE.term(18, "(0 by 1 if it is empty)");
        one.word(0, 1, 0, 8, true, 0);
        odds(one, "empty", 1, 7, 0, 1);
        odds(one, "empty, d 1", 1, 1, 0, 1);
        odds(one, "empty, d 60", 1, 60, 0, 1);
    }

    private static void oddsRefused() {
        EDGE.promise(18, "NoSuchElementException: also another what.");
        SoundHarbour x = Check.harbour("ship 5 10 0 1;person;");
        EDGE.noSuch("what 2", () -> x.odds(0, 0, 7, 2));
        EDGE.noSuch("what -1", () -> x.odds(0, 0, 7, -1));
        EDGE.noSuch("person 1", () -> x.odds(1, 0, 7, 0));
        EDGE.noSuch("person -1", () -> x.odds(-1, 0, 7, 0));
        EDGE.noSuch("ship 1", () -> x.odds(0, 1, 7, 0));
        EDGE.noSuch("ship -1", () -> x.odds(0, -1, 7, 0));
        EDGE.promise(18, "IllegalArgumentException (behind that): d is not 1 to 60 (as everywhere).");
        EDGE.illegal("d 0", () -> x.odds(0, 0, 0, 0));
        EDGE.illegal("d 61", () -> x.odds(0, 0, 61, 1));
        EDGE.illegal("d -1", () -> x.odds(0, 0, -1, 1));
        EDGE.is("d 1", x.odds(0, 0, 1, 0), 1);
        EDGE.is("d 60", x.odds(0, 0, 60, 0), 0);
        EDGE.noSuch("d 0, what 2", () -> x.odds(0, 0, 0, 2));
        EDGE.noSuch("d 61, no ship", () -> x.odds(0, 1, 61, 0));
        EDGE.noSuch("d 61, no person", () -> x.odds(1, 0, 61, 0));
        for (int far : FAR) {
            EDGE.illegal("d " + far, () -> x.odds(0, 0, far, 0));
            EDGE.noSuch("all " + far, () -> x.odds(far, far, far, far));
            EDGE.noSuch("d and what " + far, () -> x.odds(0, 0, far, far));
        }
    }

    private static void worth() {
        EDGE.term(19, "by how many THE MOST grows if it doesn't TOUCH, by 1000, by how many KEELS of THE SPAN are below d, "
                + "by all of them, cut down");
        SoundHarbour x = Check.harbour("clear 1;ship 4 10 0 1 sink 2;person;person;stone 9 silt 9;");
        int[][] due = {{1, 0}, {4, 0}, {5, 142}, {6, 285}, {7, 428}, {8, 571}, {9, 714}, {10, 0}, {11, 0}, {60, 0}};
        for (int[] one : due) {
            EDGE.is("to " + one[0], x.worth(0, 0, one[0]), one[1]);
        }
        x.load(0, 10);
        EDGE.is("with a LOAD, to 7", x.worth(0, 0, 7), 428);
        EDGE.is("with a LOAD, to 8", x.worth(0, 0, 8), 0);
        x.load(0, 0);
        x.word(1, 0, 0, 8, true, 0);
        EDGE.is("of 8 to 10, to 9", x.worth(0, 0, 9), 333);
        EDGE.is("of 8 to 10, to 10", x.worth(0, 0, 10), 0);
        EDGE.is("for the other", x.worth(1, 0, 9), 714);
        x.word(1, 0, 0, 9, false, 0);
        EDGE.is("it is SAFE already", x.worth(0, 0, 9), 0);
        EDGE.is("a LEAD less deep tells no more", x.worth(0, 0, 8), 0);
        SoundHarbour full = Check.harbour("ship 4 10 0 2;ship 1 1 1 1;person;stone 9;");
        EDGE.is("it only takes another's place", full.worth(0, 0, 10), 0);
        SoundHarbour wait = Check.harbour("wait 1;ship 4 10 0 2;ship 1 1 1 1;person;stone 9;");
        EDGE.is("the other can wait", wait.worth(0, 0, 10), 857);
        EDGE.is("nothing is kept or changed", wait.count(7), 0);
        EDGE.is("all 61 KEELS but one", Check.harbour("ship 0 60 0 1;person;stone 59;").worth(0, 0, 60), 983);
        EDGE.term(19, "for him now, on DAY 0");
        SoundHarbour silt = Check.harbour("ship 4 10 0 1;person;stone 9 silt 9;");
        silt.most(0, 9999);
        EDGE.is("behind most() of another DAY", silt.worth(0, 0, 10), 857);
        SoundHarbour now = Check.harbour("ship 4 10 0 1;ship 1 9 0 1 sink 1;person;person;stone 9;");
        EDGE.is("the other ship has the berth", now.worth(0, 0, 10), 0);
        now.load(1, 10);
        EDGE.is("it is loaded now", now.worth(0, 0, 10), 857);
        now.word(1, 0, 1, 9, false, 0);
        EDGE.is("its KEEL is known now", now.worth(0, 0, 10), 0);
        EDGE.is("not by the other person", now.worth(1, 0, 10), 857);
        now.undo();
        EDGE.is("it is undone", now.worth(0, 0, 10), 857);
        now.lead(0, 0, 6, true);
        EDGE.is("he lowered one there already", now.worth(0, 0, 10), 800);
    }

    private static void worthOfNothing() {
        EDGE.term(19, "(0 if THE SPAN is empty, or would be by its not touching;");
        SoundHarbour x = Check.harbour("ship 5 10 0 1;ship 7 7 0 1;person;person;stone 9;stone 6;");
        EDGE.is("no KEEL is below LOW", x.worth(0, 0, 5), 0);
        EDGE.is("no KEEL is below 1", x.worth(0, 0, 1), 0);
        EDGE.is("one KEEL, below it", x.worth(0, 1, 7), 0);
        EDGE.is("one KEEL, above it", x.worth(0, 1, 8), 0);
        x.word(1, 0, 0, 11, true, 0);
        for (int d : new int[] {1, 5, 8, 11, 60}) {
            EDGE.is("an empty SPAN, to " + d, x.worth(0, 0, d), 0);
        }
        SoundHarbour zero = Check.harbour("ship 0 60 0 1;person;stone 0;");
        EDGE.is("KEEL 0 alone is left", zero.worth(0, 0, 1), 16);
        EDGE.is("KEELS 0 and 1", zero.worth(0, 0, 2), 0);
        SoundHarbour none = Check.harbour("ship 0 60 0 1;person;");
        EDGE.is("no berths", none.worth(0, 0, 1), 0);
    }

    private static void worthRefused() {
        EDGE.promise(19, "throws NoSuchElementException, IllegalArgumentException`: WORTH.");
        SoundHarbour x = Check.harbour("ship 5 10 0 1;person;stone 9;");
        EDGE.illegal("d 0", () -> x.worth(0, 0, 0));
        EDGE.illegal("d 61", () -> x.worth(0, 0, 61));
        EDGE.is("d 1", x.worth(0, 0, 1), 0);
        EDGE.is("d 60", x.worth(0, 0, 60), 0);
        EDGE.noSuch("person 1", () -> x.worth(1, 0, 7));
        EDGE.noSuch("person -1, d 0", () -> x.worth(-1, 0, 0));
        EDGE.noSuch("ship 1", () -> x.worth(0, 1, 7));
        EDGE.noSuch("ship -1, d 61", () -> x.worth(0, -1, 61));
        for (int far : FAR) {
            EDGE.illegal("d " + far, () -> x.worth(0, 0, far));
            EDGE.noSuch("ship and d " + far, () -> x.worth(0, far, far));
            EDGE.noSuch("person and d " + far, () -> x.worth(far, 0, far));
        }
    }

    private static void best(SoundHarbour x, String call, int person, int lead, int worth) {
        EDGE.is(call + ", best(.., 0)", x.best(person, 0), lead);
        EDGE.is(call + ", best(.., 1)", x.best(person, 1), worth);
    }

    private static void theBestLead() {
        EDGE.promise(20, "100 by the SHIP and the depth (what 0), its WORTH (1); NONE: he lowered one beside all.");
        SoundHarbour x = Check.harbour("ship 5 10 0 1;ship 5 10 0 1;person;person;stone 9;");
        best(x, "beside ship 0", 0, 10, 833);
        x.lead(0, 0, 6, true);
        best(x, "beside ship 1", 0, 110, 833);
        x.lead(0, 1, 6, true);
        best(x, "he lowered one beside all", 0, NONE, NONE);
        best(x, "the other one didn't", 1, 10, 833);
        x.undo();
        best(x, "one is undone", 0, 110, 833);
        x.word(0, 1, 0, 5, true, 0);
        x.word(0, 1, 1, 5, true, 0);
        best(x, "WORDS are no LEADS", 1, 10, 833);
        best(Check.harbour("person;stone 9;"), "beside no ship at all", 0, NONE, NONE);
        best(Check.harbour("ship 4 10 0 1;person;stone 9 silt 9;"), "on DAY 0", 0, 10, 857);
        best(Check.harbour("ship 0 60 0 1;person;stone 59;"), "the deepest LEAD", 0, 60, 983);
        best(Check.harbour("ship 0 60 0 1;person;stone 0;"), "the least deep LEAD", 0, 1, 16);
        best(Check.harbour("ship 1 1 0 1;ship 1 1 0 1;ship 1 1 0 1;ship 1 1 0 1;ship 3 9 0 1;person;stone 8;stone 8;stone 8;"
                + "stone 8;stone 8;"), "the last ship", 0, 409, 857);
        EDGE.promise(20, "NoSuchElementException: also another what.");
        EDGE.noSuch("what 2", () -> x.best(0, 2));
        EDGE.noSuch("what -1", () -> x.best(0, -1));
        EDGE.noSuch("person 2", () -> x.best(2, 0));
        EDGE.noSuch("person -1", () -> x.best(-1, 0));
        for (int far : FAR) {
            EDGE.noSuch("what " + far, () -> x.best(0, far));
            EDGE.noSuch("person " + far, () -> x.best(far, 0));
        }
    }

    private static void theBestOfLikeOnes() {
        EDGE.term(20, "that of greatest WORTH, of like ones the least SHIP, then the least depth (1 to 60).");
        best(Check.harbour("ship 5 10 0 1;ship 4 10 0 1;person;stone 9;"), "the greater of a later ship", 0, 110, 857);
        best(Check.harbour("ship 5 10 0 1;ship 15 20 0 1;person;stone 9;stone 19;"), "no LEAD helps alone", 0, 1, 0);
        best(Check.harbour("ship 5 10 0 1;ship 5 10 5 1;ship 1 1 0 1;person;stone 9;"), "one hour is taken", 0, 110, 833);
        best(Check.harbour("ship 5 10 0 1;ship 9 9 0 1;person;stone 9;stone 7;"), "one berth is taken", 0, 8, 500);
        best(Check.harbour("ship 5 20 0 1;ship 5 20 0 1;person;stone 9;stone 9;"), "like ones of two ships", 0, 10, 312);
        best(Check.harbour("ship 5 10 0 1;ship 5 10 0 1;person;stone 10;stone 10;"), "no worth at all", 0, 1, 0);
        best(Check.harbour("ship 5 10 0 1;ship 5 10 0 1;person;"), "no berths", 0, 1, 0);
        SoundHarbour none = Check.harbour("ship 5 10 0 1;ship 5 10 0 1;person;");
        none.lead(0, 0, 7, true);
        best(none, "no worth beside ship 1", 0, 101, 0);
        SoundHarbour empty = Check.harbour("ship 5 10 0 1;ship 5 12 0 1;person;person;stone 9;");
        empty.word(1, 0, 0, 11, true, 0);
        best(empty, "an empty SPAN is worth nothing", 0, 110, 625);
        SoundHarbour less = Check.harbour("ship 5 6 0 1;ship 0 60 0 1;person;stone 5;stone 5;");
        best(less, "500 and 98", 0, 6, 500);
        less.lead(0, 0, 6, true);
        best(less, "98 alone", 0, 106, 98);
    }

    private static void howLong() {
        EDGE.promise(21, "HOW LONG; NONE: not even on DAY 0.");
        SoundHarbour x = Check.harbour("ship 5 10 0 1;person;person;stone 9;stone 10 silt 9;stone 10;stone 10 silt 1;mud 8 silt 5;");
        int[] due = {NONE, 1, 9999, 9, 1};
        for (int berth = 0; berth < 5; berth++) {
            EDGE.is("in berth " + berth, x.until(0, 0, berth), due[berth]);
        }
        x.word(1, 0, 0, 11, true, 0);
        EDGE.is("an empty SPAN", x.until(0, 0, 2), NONE);
        EDGE.is("for the other", x.until(1, 0, 2), 9999);
        EDGE.noSuch("person 2", () -> x.until(2, 0, 0));
        EDGE.noSuch("person -1", () -> x.until(-1, 0, 0));
        EDGE.noSuch("ship 1", () -> x.until(0, 1, 0));
        EDGE.noSuch("ship -1", () -> x.until(0, -1, 0));
        EDGE.noSuch("berth 5", () -> x.until(0, 0, 5));
        EDGE.noSuch("berth -1", () -> x.until(0, 0, -1));
        for (int far : FAR) {
            EDGE.noSuch("person " + far, () -> x.until(far, 0, 0));
            EDGE.noSuch("ship " + far, () -> x.until(0, far, 0));
            EDGE.noSuch("berth " + far, () -> x.until(0, 0, far));
        }
        EDGE.term(21, "the last DAY (0 to 9999) up to which a SHIP is SAFE for a PERSON now in a BERTH from ARRIVES on");
        SoundHarbour y = Check.harbour("tide 12;ship 1 1 3 3;ship 0 0 0 1;ship 7 7 3 3 sink 1;ship 7 7 0 2;person;"
                + "stone 99 silt 9;stone 99 silt 1;dock 1 silt 9;");
        EDGE.is("by the tide alone, for ever", y.until(0, 0, 0), 9999);
        EDGE.is("KEEL 0", y.until(0, 1, 0), 9999);
        EDGE.is("1 more than the tide", y.until(0, 2, 0), 109);
        EDGE.is("1 more than the tide, SILT 1", y.until(0, 2, 1), 989);
        EDGE.is("low water", y.until(0, 3, 0), 103);
        EDGE.is("low water, SILT 1", y.until(0, 3, 1), 929);
        EDGE.is("a dock keeps the tide", y.until(0, 3, 2), 9999);
        y.load(2, 10);
        EDGE.is("with a LOAD", y.until(0, 2, 1), 979);
        for (int depth = 0; depth <= 12; depth++) {
            SoundHarbour one = Check.harbour("ship 6 6 0 1;person;stone " + depth + " silt 3;");
            int last = NONE;
            while (last < 9999 && one.berth(0, 0, last + 1) >= 6) {
                last++;
            }
            EDGE.is("DEPTH " + depth, one.until(0, 0, 0), last);
        }
    }

    private static void theMostLoad() {
        EDGE.promise(22, "THE MOST LOAD; NONE: not even without.");
        SoundHarbour x = Check.harbour("ship 5 10 0 1 sink 1;ship 5 10 0 1;person;person;stone 9;stone 10;stone 18;stone 19;stone 99;");
        int[] due = {NONE, 9, 89, 99, 99};
        int[] without = {NONE, 99, 99, 99, 99};
        for (int berth = 0; berth < 5; berth++) {
            EDGE.is("in berth " + berth, x.bears(0, 0, berth), due[berth]);
            EDGE.is("without SINK in berth " + berth, x.bears(0, 1, berth), without[berth]);
        }
        x.word(1, 0, 0, 11, true, 0);
        EDGE.is("an empty SPAN", x.bears(0, 0, 4), NONE);
        EDGE.is("for the other", x.bears(1, 0, 4), 99);
        EDGE.noSuch("person 2", () -> x.bears(2, 0, 0));
        EDGE.noSuch("person -1", () -> x.bears(-1, 0, 0));
        EDGE.noSuch("ship 2", () -> x.bears(0, 2, 0));
        EDGE.noSuch("ship -1", () -> x.bears(0, -1, 0));
        EDGE.noSuch("berth 5", () -> x.bears(0, 0, 5));
        EDGE.noSuch("berth -1", () -> x.bears(0, 0, -1));
        for (int far : FAR) {
            EDGE.noSuch("person " + far, () -> x.bears(far, 0, 0));
            EDGE.noSuch("ship " + far, () -> x.bears(0, far, 0));
            EDGE.noSuch("berth " + far, () -> x.bears(0, 0, far));
        }
        EDGE.term(22, "THE MOST LOAD (0 to 99) with which it is, on DAY 0.");
        SoundHarbour y = Check.harbour("clear 2;tide 12;ship 0 10 1 2 sink 9;ship 0 10 0 2 sink 9;person;person;"
                + "stone 28 silt 9;stone 27;stone 9;");
        EDGE.is("10, 2 and 18 in 30", y.bears(0, 0, 0), 29);
        EDGE.is("10, 2 and 18 in 29", y.bears(0, 0, 1), 19);
        EDGE.is("10 and 2 in 11", y.bears(0, 0, 2), NONE);
        EDGE.is("at low water", y.bears(0, 1, 0), 19);
        y.load(0, 99);
        EDGE.is("its LOAD now is no matter", y.bears(0, 0, 0), 29);
        EDGE.is("it stays", y.ship(0, 5), 99);
        y.word(1, 0, 0, 2, false, 0);
        EDGE.is("by a WORD", y.bears(0, 0, 0), 39);
    }

    private static void notAground() {
        EDGE.term(23, "0 it isn't aground (nowhere in its STAY is KEEL, with LOAD, more than the BERTH has)");
        SoundHarbour x = Check.harbour("clear 20;tide 6;ship 0 60 0 4 sink 1;person;person;stone 10 silt 9;dock 4;");
        EDGE.is("as much as the berth has", x.aground(0, 0, 0, 0, 10, 0), 0);
        EDGE.is("1 more", x.aground(0, 0, 0, 0, 11, 0), 1);
        EDGE.is("KEEL 0", x.aground(0, 0, 0, 0, 0, 0), 0);
        EDGE.is("KEEL 60", x.aground(0, 0, 0, 0, 60, 0), 1);
        EDGE.is("3 of tide in hours 3 to 6", x.aground(0, 0, 0, 3, 13, 0), 0);
        EDGE.is("the first hour", x.aground(0, 0, 0, 2, 13, 0), 1);
        EDGE.is("3 of tide in hours 6 to 9", x.aground(0, 0, 0, 6, 13, 0), 0);
        EDGE.is("the last hour", x.aground(0, 0, 0, 7, 13, 0), 1);
        EDGE.is("hours 99 to 102", x.aground(0, 0, 0, 99, 13, 0), 0);
        EDGE.is("in a dock", x.aground(0, 0, 1, 0, 10, 0), 0);
        EDGE.is("in a dock, 1 more", x.aground(0, 0, 1, 0, 11, 0), 1);
        x.load(0, 19);
        EDGE.is("with LOAD", x.aground(0, 0, 0, 0, 9, 0), 0);
        EDGE.is("with LOAD, 1 more", x.aground(0, 0, 0, 0, 10, 0), 1);
        EDGE.promise(23, "A GROUNDING; NONE: the KEEL is none of THE TRUE SPAN.");
        SoundHarbour y = Check.harbour("ship 5 10 0 1;person;person;stone 60;");
        for (int keel : new int[] {4, 11, 0, 61, -1, Integer.MIN_VALUE, Integer.MAX_VALUE}) {
            EDGE.is("KEEL " + keel, y.aground(0, 0, 0, 0, keel, 0), NONE);
        }
        EDGE.is("KEEL 5", y.aground(0, 0, 0, 0, 5, 0), 0);
        EDGE.is("KEEL 10", y.aground(0, 0, 0, 0, 10, 0), 0);
        y.word(1, 0, 0, 8, true, 0);
        EDGE.is("against a WORD", y.aground(0, 0, 0, 0, 7, 1), 0);
        y.lead(1, 0, 8, true);
        EDGE.is("against a LEAD", y.aground(0, 0, 0, 0, 7, 2), NONE);
        EDGE.is("against a LEAD that came later", y.aground(0, 0, 0, 0, 7, 0), NONE);
        EDGE.is("at the LEAD", y.aground(0, 0, 0, 0, 8, 2), 0);
    }

    private static void hisFault() {
        EDGE.term(23, "1 his fault: it wasn't SAFE by what he knew");
        SoundHarbour x = Check.harbour("clear 1;ship 5 10 0 1;person;person;stone 8;stone 7;");
        EDGE.is("he knew nothing", x.aground(0, 0, 0, 0, 9, 0), 1);
        x.word(1, 0, 0, 8, false, 0);
        EDGE.is("7 and CLEAR in 8", x.aground(0, 0, 0, 0, 9, 1), 11);
        EDGE.is("7 and CLEAR in 7", x.aground(0, 0, 1, 0, 9, 1), 1);
        EDGE.is("before the WORD", x.aground(0, 0, 0, 0, 9, 0), 1);
        EDGE.is("who sold it knew nothing", x.aground(1, 0, 0, 0, 9, 1), 1);
        x.word(1, 0, 0, 8, true, 0);
        EDGE.is("by an empty SPAN", x.aground(0, 0, 0, 0, 9, 2), 1);
        EDGE.is("at the time before", x.aground(0, 0, 0, 0, 9, 1), 11);
    }

    private static void aSellersFault() {
        EDGE.term(23, "else the fault of who sold him a WORD that is false by that KEEL, and without which (all others taken) "
                + "it wouldn't have been SAFE: 10 and the least such PERSON");
        for (int seller = 0; seller < 3; seller++) {
            SoundHarbour x = Check.harbour("ship 5 10 0 1;person;person;person;person;stone 8;");
            x.word(seller, 3, 0, 9, false, 0);
            EDGE.is("PERSON " + seller, x.aground(3, 0, 0, 0, 9, 1), 10 + seller);
        }
        SoundHarbour x = Check.harbour("ship 0 60 0 1;person;person;person;person;stone 8;");
        x.word(3, 0, 0, 9, false, 0);
        EDGE.is("the least KEEL by which it is false", x.aground(0, 0, 0, 0, 9, 1), 13);
        x.word(2, 0, 0, 10, false, 0);
        EDGE.is("another false one that isn't enough", x.aground(0, 0, 0, 0, 10, 2), 13);
        x.word(1, 0, 0, 8, true, 0);
        EDGE.is("a true one", x.aground(0, 0, 0, 0, 10, 3), 13);
        x.word(1, 2, 0, 9, false, 0);
        EDGE.is("one that was sold to another", x.aground(0, 0, 0, 0, 10, 4), 13);
        SoundHarbour two = Check.harbour("ship 0 60 0 1 sink 1;ship 0 60 0 1;person;person;person;stone 8;");
        two.word(1, 0, 0, 9, false, 0);
        two.word(2, 0, 1, 9, false, 0);
        EDGE.is("of two ships, the first", two.aground(0, 0, 0, 0, 9, 2), 11);
        EDGE.is("of two ships, the second", two.aground(0, 1, 0, 0, 9, 2), 12);
        two.load(0, 10);
        EDGE.is("with LOAD it wasn't SAFE", two.aground(0, 0, 0, 0, 9, 2), 1);
        two.load(0, 9);
        EDGE.is("a LOAD that adds nothing", two.aground(0, 0, 0, 0, 9, 2), 11);
        SoundHarbour own = Check.harbour("ship 0 60 0 1;person;person;person;stone 8;");
        own.lead(0, 0, 20, false);
        own.word(2, 0, 0, 9, false, 0);
        EDGE.is("his own true LEAD isn't enough", own.aground(0, 0, 0, 0, 19, 2), 12);
        own.word(1, 0, 0, 60, true, 0);
        EDGE.is("a WORD that leaves no KEEL", own.aground(0, 0, 0, 0, 19, 3), 1);
    }

    private static void nobodysFault() {
        EDGE.term(23, "2 nobody's (no WORD did it alone).");
        SoundHarbour x = Check.harbour("ship 5 10 0 1;person;person;person;person;stone 8;");
        x.word(1, 0, 0, 9, false, 0);
        x.word(2, 0, 0, 9, false, 0);
        EDGE.is("two like WORDS", x.aground(0, 0, 0, 0, 9, 2), 2);
        EDGE.is("at the time of one", x.aground(0, 0, 0, 0, 9, 1), 11);
        x.word(3, 0, 0, 7, false, 0);
        EDGE.is("three WORDS", x.aground(0, 0, 0, 0, 10, 3), 2);
        x.undo();
        x.undo();
        x.word(1, 0, 0, 8, false, 0);
        EDGE.is("two WORDS of one seller", x.aground(0, 0, 0, 0, 9, 2), 2);
        SoundHarbour many = Check.harbour("ship 5 10 0 1;person;person;stone 8;");
        for (int i = 1; i <= 79; i++) {
            many.word(1, 0, 0, 10, false, 0);
        }
        many.word(1, 0, 0, 9, false, 0);
        EDGE.is("79 WORDS that aren't enough", many.aground(0, 0, 0, 0, 10, 79), 1);
        EDGE.is("the 80th did it alone", many.aground(0, 0, 0, 0, 10, 80), 11);
        EDGE.is("it is true by KEEL 8", many.aground(0, 0, 0, 0, 8, 80), 0);
    }

    private static void agroundRefused() {
        EDGE.promise(23, "throws NoSuchElementException, IllegalArgumentException`");
        SoundHarbour x = Check.harbour("ship 5 10 0 1;person;stone 9;");
        int[][] none = {{1, 0, 0, 0}, {-1, 0, 0, 0}, {0, 1, 0, 0}, {0, -1, 0, 0}, {0, 0, 1, 0}, {0, 0, -1, 0},
            {0, 0, 0, 100}, {0, 0, 0, -1}};
        for (int[] one : none) {
            for (int time : new int[] {0, 1, -1}) {
                EDGE.noSuch("aground(" + java.util.Arrays.toString(one) + ", 7, " + time + ")",
                        () -> x.aground(one[0], one[1], one[2], one[3], 7, time));
            }
            EDGE.noSuch("aground(" + java.util.Arrays.toString(one) + ", 99, 0)",
                    () -> x.aground(one[0], one[1], one[2], one[3], 99, 0));
        }
        EDGE.illegal("time 1 of 0", () -> x.aground(0, 0, 0, 0, 7, 1));
        EDGE.illegal("time -1", () -> x.aground(0, 0, 0, 0, 7, -1));
        EDGE.illegal("time 1 of 0, KEEL 99", () -> x.aground(0, 0, 0, 0, 99, 1));
        for (int far : FAR) {
            EDGE.illegal("time " + far, () -> x.aground(0, 0, 0, 0, 7, far));
            EDGE.noSuch("person " + far, () -> x.aground(far, 0, 0, 0, 7, far));
            EDGE.noSuch("ship " + far, () -> x.aground(0, far, 0, 0, 7, far));
            EDGE.noSuch("berth " + far, () -> x.aground(0, 0, far, 0, 7, far));
            EDGE.noSuch("hour " + far, () -> x.aground(0, 0, 0, far, 7, far));
        }
        EDGE.is("hour 99", x.aground(0, 0, 0, 99, 7, 0), 0);
    }
}
