import java.util.NoSuchElementException;

/** A harbour in which keels are known by leads and by words about leads, which may be lies. */
public final class SoundHarbour {
    public static final int NONE = -1;

    private static final int MOST_SHIPS = 5;
    private static final int MOST_PERSONS = 4;
    private static final int MOST_BERTHS = 5;
    private static final int MOST_EVENTS = 80;
    private static final int MOST_BYTES = 500;
    private static final int MOST_WAIT = 2;
    private static final int DEEPEST = 60;
    private static final int LAST_HOUR = 99;
    private static final int LAST_DAY = 9999;
    private static final int FULL_LOAD = 99;
    private static final int DEAREST = 999;
    /** More water than any berth ever has: what a ship needs of which nobody knows a keel. */
    private static final int TOO_MUCH = 1000;
    /** Halvings that bring the days 0 to LAST_DAY down to one. */
    private static final int HALVINGS = 14;

    private static final int TIDE = 0;
    private static final int CLEAR = 1;
    private static final int WAIT = 2;
    private static final int FEE = 3;
    private static final int SETTINGS = 4;

    private static final int STONE = 0;
    private static final int MUD = 1;
    private static final int DOCK = 2;

    private static final int REFUSED_TEXTS = 0;
    private static final int REFUSED_EVENTS = 1;
    private static final int REFUSED_NAMES = 2;
    private static final int REFUSALS = 3;

    private final Reader reader;
    private final Port port;
    /** Where a text is read to, for its fault may come late. */
    private final Port draft;
    private final Journal journal;
    private final Journal kept;
    private boolean isImaged;
    private final Planner planner;
    private final NameRows nameRows;
    private final Span known;
    private final int[] rowBerths;
    private final int[] rowWaits;
    private boolean isRowKept;

    public SoundHarbour() {
        reader = new Reader();
        port = new Port();
        draft = new Port();
        journal = new Journal(port);
        kept = new Journal(port);
        planner = new Planner(port);
        nameRows = new NameRows();
        known = new Span();
        rowBerths = new int[MOST_SHIPS];
        rowWaits = new int[MOST_SHIPS];
    }

    public int feed(int a, int b, int c, int d, int e) {
        if (!reader.hasRoomFor(20)) {
            return NONE;
        }
        reader.addNumber(a);
        reader.addNumber(b);
        reader.addNumber(c);
        reader.addNumber(d);
        reader.addNumber(e);
        return reader.length;
    }

    public int harbour(int n) throws IllegalArgumentException {
        if (n < 0 || n > reader.length) {
            throw new IllegalArgumentException("the tape has not so many bytes");
        }
        int faultKind = reader.readInto(draft, n);
        if (faultKind != 0) {
            journal.refuse(REFUSED_TEXTS);
            return faultKind;
        }
        port.copyFrom(draft);
        journal.beginAnew();
        isImaged = false;
        isRowKept = false;
        return 0;
    }

    public int fault() {
        return reader.faultPlace;
    }

    public int count(int what) throws NoSuchElementException {
        switch (what) {
            case 0: return port.ships;
            case 1: return port.persons;
            case 2: return port.berths;
            case 3: return port.settings[TIDE];
            case 4: return port.settings[CLEAR];
            case 5: return port.settings[WAIT];
            case 6: return port.settings[FEE];
            case 7: return journal.events;
            case 8: return reader.length;
            case 9: return journal.refused[REFUSED_TEXTS];
            case 10: return journal.refused[REFUSED_EVENTS];
            case 11: return journal.refused[REFUSED_NAMES];
            default: throw new NoSuchElementException("no such count");
        }
    }

    public int ship(int ship, int what) throws NoSuchElementException {
        requireShip(ship);
        switch (what) {
            case 0: return port.low[ship];
            case 1: return port.high[ship];
            case 2: return port.arrives[ship];
            case 3: return port.stays[ship];
            case 4: return port.sink[ship];
            case 5: return journal.loads[ship];
            case 6: return trueSpan(ship).least;
            case 7: return trueSpan(ship).greatest;
            default: throw new NoSuchElementException("a ship has no such thing");
        }
    }

    public int person(int person, int what) throws NoSuchElementException {
        requirePerson(person);
        requirePart(what, 4);
        int sum = 0;
        for (int event = 0; event < journal.events; event++) {
            sum += journal.shareOf(person, event, what);
        }
        return sum;
    }

    public int berth(int berth, int hour, int day) throws NoSuchElementException {
        requireBerth(berth);
        requireHour(hour);
        requireDay(day);
        return port.leastWater(berth, hour, 1, day);
    }

    public boolean load(int ship, int load) throws NoSuchElementException {
        requireShip(ship);
        if (load < 0 || load > FULL_LOAD) {
            return false;
        }
        journal.loads[ship] = load;
        return true;
    }

    public int lead(int person, int ship, int depth, boolean touches) throws NoSuchElementException {
        requirePerson(person);
        requireShip(ship);
        if (!journal.hasRoom() || !isDepth(depth) || journal.hasLead(person, ship)
                || !canBe(ship, depth, touches)) {
            return journal.refuse(REFUSED_EVENTS);
        }
        return journal.addEvent(person, NONE, ship, depth, touches, port.settings[FEE]);
    }

    public int word(int seller, int buyer, int ship, int depth, boolean touches, int price)
            throws NoSuchElementException {
        requirePerson(seller);
        requirePerson(buyer);
        requireShip(ship);
        if (!journal.hasRoom() || !isDepth(depth) || seller == buyer || price < 0 || price > DEAREST) {
            return journal.refuse(REFUSED_EVENTS);
        }
        return journal.addEvent(buyer, seller, ship, depth, touches, price);
    }

    public int undo() {
        if (journal.events == 0) {
            return NONE;
        }
        journal.events--;
        return journal.events;
    }

    public int span(int person, int ship, int time, int what)
            throws NoSuchElementException, IllegalArgumentException {
        requirePerson(person);
        requireShip(ship);
        requirePart(what, 2);
        requireTime(time);
        journal.tellKnown(person, ship, time, NONE, known);
        if (what == 2) {
            return known.size();
        }
        if (known.isEmpty()) {
            return NONE;
        }
        return what == 0 ? known.least : known.greatest;
    }

    public int liars() {
        int all = (1 << port.persons) - 1;
        int fewest = all;
        for (int set = 0; set <= all; set++) {
            if (Integer.bitCount(set) < Integer.bitCount(fewest) && isAllPossible(set)) {
                fewest = set;
            }
        }
        return fewest;
    }

    public boolean safe(int person, int ship, int berth, int hour, int day, int time)
            throws NoSuchElementException, IllegalArgumentException {
        requirePerson(person);
        requireShip(ship);
        requireBerth(berth);
        requireHour(hour);
        requireDay(day);
        requireTime(time);
        return needOf(person, ship, time, NONE) <= port.leastWater(berth, hour, port.stays[ship], day);
    }

    public int most(int person, int day) throws NoSuchElementException {
        requirePerson(person);
        requireDay(day);
        int ships = plan(person, day);
        planner.settleWaits();
        for (int i = 0; i < MOST_SHIPS; i++) {
            rowBerths[i] = planner.found[i];
            rowWaits[i] = planner.found[i] == NONE ? NONE : planner.waits[i];
        }
        isRowKept = true;
        return ships;
    }

    public int row(int ship, int what) throws NoSuchElementException {
        requireShip(ship);
        requirePart(what, 1);
        if (!isRowKept) {
            throw new NoSuchElementException("no row is kept");
        }
        return what == 0 ? rowBerths[ship] : rowWaits[ship];
    }

    public int odds(int person, int ship, int d, int what)
            throws NoSuchElementException, IllegalArgumentException {
        requirePerson(person);
        requireShip(ship);
        requirePart(what, 1);
        requireDepth(d);
        tellNow(person, ship);
        int all = known.size();
        int deep = all - known.sizeBelow(d);
        int divisor = greatestDivisor(deep, all);
        if (divisor == 0) {
            return what == 0 ? 0 : 1;
        }
        return what == 0 ? deep / divisor : all / divisor;
    }

    public int worth(int person, int ship, int d) throws NoSuchElementException, IllegalArgumentException {
        requirePerson(person);
        requireShip(ship);
        requireDepth(d);
        plan(person, 0);
        tellNow(person, ship);
        return worthOfLead(ship, d);
    }

    public int best(int person, int what) throws NoSuchElementException {
        requirePerson(person);
        requirePart(what, 1);
        plan(person, 0);
        int bestLead = NONE;
        int bestWorth = NONE;
        for (int ship = 0; ship < port.ships; ship++) {
            if (!journal.hasLead(person, ship)) {
                tellNow(person, ship);
                for (int d = 1; d <= DEEPEST; d++) {
                    int leadWorth = worthOfLead(ship, d);
                    if (leadWorth > bestWorth) {
                        bestWorth = leadWorth;
                        bestLead = 100 * ship + d;
                    }
                }
            }
        }
        return what == 0 ? bestLead : bestWorth;
    }

    public int until(int person, int ship, int berth) throws NoSuchElementException {
        requirePerson(person);
        requireShip(ship);
        requireBerth(berth);
        int need = needOf(person, ship, journal.events, NONE);
        int hour = port.arrives[ship];
        if (need > port.leastWater(berth, hour, port.stays[ship], 0)) {
            return NONE;
        }
        // Water never comes back with the days, so that the last good day can be found by halves.
        int good = 0;
        int last = LAST_DAY;
        for (int i = 0; i < HALVINGS && good < last; i++) {
            int day = (good + last + 1) / 2;
            if (need <= port.leastWater(berth, hour, port.stays[ship], day)) {
                good = day;
            } else {
                last = day - 1;
            }
        }
        return good;
    }

    public int bears(int person, int ship, int berth) throws NoSuchElementException {
        requirePerson(person);
        requireShip(ship);
        requireBerth(berth);
        tellNow(person, ship);
        if (known.isEmpty()) {
            return NONE;
        }
        int water = port.leastWater(berth, port.arrives[ship], port.stays[ship], 0);
        for (int load = FULL_LOAD; load >= 0; load--) {
            if (needWith(ship, known.greatest, load) <= water) {
                return load;
            }
        }
        return NONE;
    }

    public int aground(int person, int ship, int berth, int hour, int keel, int time)
            throws NoSuchElementException, IllegalArgumentException {
        requirePerson(person);
        requireShip(ship);
        requireBerth(berth);
        requireHour(hour);
        requireTime(time);
        if (!trueSpan(ship).holds(keel)) {
            return NONE;
        }
        int water = port.leastWater(berth, hour, port.stays[ship], 0);
        if (keel + port.deeperBy(ship, journal.loads[ship]) <= water) {
            return 0;
        }
        if (needOf(person, ship, time, NONE) > water) {
            return 1;
        }
        int culprit = leastCulprit(person, ship, keel, time, water);
        return culprit == NONE ? 2 : 10 + culprit;
    }

    public boolean name(int name, int from, int to) throws NoSuchElementException {
        requireName(name);
        if (from < 0 || from > to || to > DEEPEST) {
            journal.refuse(REFUSED_NAMES);
            return false;
        }
        journal.nameFrom[name] = from;
        journal.nameTo[name] = to;
        return true;
    }

    public int names(int name) throws NoSuchElementException {
        if (name != NONE) {
            requireName(name);
        }
        nameRows.begin(port.ships);
        for (int one = 0; one < port.ships; one++) {
            for (int ship = 0; ship < port.ships; ship++) {
                if (trueSpan(ship).meets(journal.nameFrom[one], journal.nameTo[one])) {
                    nameRows.allow(one, ship);
                }
            }
        }
        return name == NONE ? nameRows.countAll() : nameRows.shipsOf(name);
    }

    public void image() {
        kept.copyFrom(journal);
        isImaged = true;
    }

    public boolean restore() {
        if (!isImaged) {
            return false;
        }
        journal.copyFrom(kept);
        return true;
    }

    private void requireShip(int ship) {
        if (ship < 0 || ship >= port.ships) {
            throw new NoSuchElementException("no such ship");
        }
    }

    private void requireName(int name) {
        if (name < 0 || name >= port.ships) {
            throw new NoSuchElementException("no such name");
        }
    }

    private void requirePerson(int person) {
        if (person < 0 || person >= port.persons) {
            throw new NoSuchElementException("no such person");
        }
    }

    private void requireBerth(int berth) {
        if (berth < 0 || berth >= port.berths) {
            throw new NoSuchElementException("no such berth");
        }
    }

    private void requireHour(int hour) {
        if (hour < 0 || hour > LAST_HOUR) {
            throw new NoSuchElementException("no such hour");
        }
    }

    private void requireDay(int day) {
        if (day < 0 || day > LAST_DAY) {
            throw new NoSuchElementException("no such day");
        }
    }

    private void requirePart(int what, int last) {
        if (what < 0 || what > last) {
            throw new NoSuchElementException("no such part of the answer");
        }
    }

    private void requireTime(int time) {
        if (time < 0 || time > journal.events) {
            throw new IllegalArgumentException("not so many events");
        }
    }

    private void requireDepth(int depth) {
        if (!isDepth(depth)) {
            throw new IllegalArgumentException("no depth for a lead");
        }
    }

    private static boolean isDepth(int depth) {
        return depth >= 1 && depth <= DEEPEST;
    }

    private Span trueSpan(int ship) {
        journal.tellTrue(ship, known);
        return known;
    }

    private void tellNow(int person, int ship) {
        journal.tellKnown(person, ship, journal.events, NONE, known);
    }

    private boolean canBe(int ship, int depth, boolean touches) {
        Span left = trueSpan(ship);
        left.narrow(depth, touches);
        return !left.isEmpty();
    }

    private boolean isAllPossible(int liarSet) {
        for (int ship = 0; ship < port.ships; ship++) {
            journal.tellWithout(ship, liarSet, known);
            if (known.isEmpty()) {
                return false;
            }
        }
        return true;
    }

    private int needWith(int ship, int keel, int load) {
        return keel + port.deeperBy(ship, load) + port.settings[CLEAR];
    }

    /** The water without which a ship isn't safe for a person who doesn't take the event leftOut. */
    private int needOf(int person, int ship, int time, int leftOut) {
        journal.tellKnown(person, ship, time, leftOut, known);
        return known.isEmpty() ? TOO_MUCH : needWith(ship, known.greatest, journal.loads[ship]);
    }

    private int plan(int person, int day) {
        planner.begin(day);
        for (int ship = 0; ship < port.ships; ship++) {
            planner.need[ship] = needOf(person, ship, journal.events, NONE);
        }
        return planner.findMost();
    }

    /** Worth by the plan that stands and the span that is in known, which both are the caller's to make. */
    private int worthOfLead(int ship, int d) {
        int all = known.size();
        int below = known.sizeBelow(d);
        if (all == 0 || below == 0 || below == all) {
            return 0;
        }
        int deepestLeft = known.least + below - 1;
        int growth = planner.growthBy(ship, needWith(ship, deepestLeft, journal.loads[ship]));
        return growth * 1000 * below / all;
    }

    private int leastCulprit(int person, int ship, int keel, int time, int water) {
        int culprit = NONE;
        for (int event = 0; event < time; event++) {
            if (journal.isFalseWord(event, person, ship, keel)
                    && needOf(person, ship, time, event) > water) {
                int seller = journal.seller[event];
                if (culprit == NONE || seller < culprit) {
                    culprit = seller;
                }
            }
        }
        return culprit;
    }

    private static int greatestDivisor(int a, int b) {
        int x = a;
        int y = b;
        for (int i = 0; i < 100 && y != 0; i++) {
            int rest = x % y;
            x = y;
            y = rest;
        }
        return x;
    }

    /** Keels from least to greatest; none if least is above greatest. */
    private static final class Span {
        int least;
        int greatest;

        void beginWith(int low, int high) {
            least = low;
            greatest = high;
        }

        void narrow(int depth, boolean touches) {
            if (touches) {
                least = Math.max(least, depth);
            } else {
                greatest = Math.min(greatest, depth - 1);
            }
        }

        boolean isEmpty() {
            return least > greatest;
        }

        int size() {
            return isEmpty() ? 0 : greatest - least + 1;
        }

        int sizeBelow(int depth) {
            return isEmpty() ? 0 : Math.max(0, Math.min(greatest, depth - 1) - least + 1);
        }

        boolean holds(int keel) {
            return keel >= least && keel <= greatest;
        }

        boolean meets(int from, int to) {
            return Math.max(least, from) <= Math.min(greatest, to);
        }
    }

    /** What a text tells: it doesn't change until another text comes. */
    private static final class Port {
        int ships;
        int persons;
        int berths;
        final int[] low = new int[MOST_SHIPS];
        final int[] high = new int[MOST_SHIPS];
        final int[] arrives = new int[MOST_SHIPS];
        final int[] stays = new int[MOST_SHIPS];
        final int[] sink = new int[MOST_SHIPS];
        final int[] kinds = new int[MOST_BERTHS];
        final int[] depths = new int[MOST_BERTHS];
        final int[] silts = new int[MOST_BERTHS];
        final int[] settings = new int[SETTINGS];

        void empty() {
            ships = 0;
            persons = 0;
            berths = 0;
            for (int i = 0; i < SETTINGS; i++) {
                settings[i] = 0;
            }
        }

        void copyFrom(Port other) {
            ships = other.ships;
            persons = other.persons;
            berths = other.berths;
            System.arraycopy(other.low, 0, low, 0, MOST_SHIPS);
            System.arraycopy(other.high, 0, high, 0, MOST_SHIPS);
            System.arraycopy(other.arrives, 0, arrives, 0, MOST_SHIPS);
            System.arraycopy(other.stays, 0, stays, 0, MOST_SHIPS);
            System.arraycopy(other.sink, 0, sink, 0, MOST_SHIPS);
            System.arraycopy(other.kinds, 0, kinds, 0, MOST_BERTHS);
            System.arraycopy(other.depths, 0, depths, 0, MOST_BERTHS);
            System.arraycopy(other.silts, 0, silts, 0, MOST_BERTHS);
            System.arraycopy(other.settings, 0, settings, 0, SETTINGS);
        }

        int tideAt(int hour) {
            return settings[TIDE] * (6 - Math.abs(hour % 12 - 6)) / 6;
        }

        /** The least that a berth has in any of some hours of a day. */
        int leastWater(int berth, int hour, int hours, int day) {
            int bottom = Math.max(0, depths[berth] - silts[berth] * day / 10);
            int tide = tideAt(6);
            if (kinds[berth] == DOCK) {
                return bottom + tide;
            }
            for (int i = 0; i < hours; i++) {
                tide = Math.min(tide, tideAt(hour + i));
            }
            return bottom + tide + (kinds[berth] == MUD ? 2 : 0);
        }

        int deeperBy(int ship, int load) {
            return sink[ship] * (load / 10);
        }
    }

    /** What an image keeps: events, loads, names, refusals. */
    private static final class Journal {
        int events;
        /** Who knows by the event: the one who lowered the lead, or bought the word. */
        final int[] learner = new int[MOST_EVENTS];
        /** NONE for a lead. */
        final int[] seller = new int[MOST_EVENTS];
        final int[] shipOf = new int[MOST_EVENTS];
        final int[] depthOf = new int[MOST_EVENTS];
        final boolean[] touching = new boolean[MOST_EVENTS];
        /** What the learner paid: a word's price, or the fee. */
        final int[] priceOf = new int[MOST_EVENTS];
        final int[] loads = new int[MOST_SHIPS];
        final int[] nameFrom = new int[MOST_SHIPS];
        final int[] nameTo = new int[MOST_SHIPS];
        final int[] refused = new int[REFUSALS];
        private final Port port;

        Journal(Port here) {
            port = here;
        }

        void beginAnew() {
            events = 0;
            for (int i = 0; i < MOST_SHIPS; i++) {
                loads[i] = 0;
                nameFrom[i] = 0;
                nameTo[i] = DEEPEST;
            }
        }

        void copyFrom(Journal other) {
            events = other.events;
            for (int i = 0; i < events; i++) {
                learner[i] = other.learner[i];
                seller[i] = other.seller[i];
                shipOf[i] = other.shipOf[i];
                depthOf[i] = other.depthOf[i];
                touching[i] = other.touching[i];
                priceOf[i] = other.priceOf[i];
            }
            System.arraycopy(other.loads, 0, loads, 0, MOST_SHIPS);
            System.arraycopy(other.nameFrom, 0, nameFrom, 0, MOST_SHIPS);
            System.arraycopy(other.nameTo, 0, nameTo, 0, MOST_SHIPS);
            System.arraycopy(other.refused, 0, refused, 0, REFUSALS);
        }

        boolean hasRoom() {
            return events < MOST_EVENTS;
        }

        int addEvent(int who, int from, int ship, int depth, boolean touches, int price) {
            learner[events] = who;
            seller[events] = from;
            shipOf[events] = ship;
            depthOf[events] = depth;
            touching[events] = touches;
            priceOf[events] = price;
            events++;
            return events;
        }

        int refuse(int kind) {
            refused[kind]++;
            return NONE;
        }

        boolean isLeadBy(int event, int person) {
            return seller[event] == NONE && learner[event] == person;
        }

        boolean isBoughtBy(int event, int person) {
            return seller[event] != NONE && learner[event] == person;
        }

        boolean isFalseWord(int event, int person, int ship, int keel) {
            return isBoughtBy(event, person) && shipOf[event] == ship
                    && touching[event] != (keel >= depthOf[event]);
        }

        boolean hasLead(int person, int ship) {
            for (int i = 0; i < events; i++) {
                if (isLeadBy(i, person) && shipOf[i] == ship) {
                    return true;
                }
            }
            return false;
        }

        /** What one event adds to what person() tells. */
        int shareOf(int person, int event, int what) {
            switch (what) {
                case 0: return learner[event] == person ? priceOf[event] : 0;
                case 1: return seller[event] == person ? priceOf[event] : 0;
                case 2: return isLeadBy(event, person) ? 1 : 0;
                case 3: return seller[event] == person ? 1 : 0;
                case 4: return isBoughtBy(event, person) ? 1 : 0;
                default: return 0;
            }
        }

        /** What a person knows of a ship behind so many events, without the event leftOut (NONE: with all). */
        void tellKnown(int person, int ship, int time, int leftOut, Span into) {
            into.beginWith(port.low[ship], port.high[ship]);
            for (int i = 0; i < time; i++) {
                if (learner[i] == person && shipOf[i] == ship && i != leftOut) {
                    into.narrow(depthOf[i], touching[i]);
                }
            }
        }

        /** What all leads tell, and all words but those of a set of sellers. */
        void tellWithout(int ship, int liarSet, Span into) {
            into.beginWith(port.low[ship], port.high[ship]);
            for (int i = 0; i < events; i++) {
                boolean isTaken = seller[i] == NONE || (liarSet & 1 << seller[i]) == 0;
                if (isTaken && shipOf[i] == ship) {
                    into.narrow(depthOf[i], touching[i]);
                }
            }
        }

        void tellTrue(int ship, Span into) {
            tellWithout(ship, (1 << MOST_PERSONS) - 1, into);
        }
    }

    /** Finds the most ships that can lie safe together, and their row. */
    private static final class Planner {
        private static final int STARTS = MOST_WAIT + 1;

        /** The water without which each ship isn't safe: to be told between begin and findMost. */
        final int[] need = new int[MOST_SHIPS];
        /** The berth of each ship in the first best row. */
        final int[] found = new int[MOST_SHIPS];
        final int[] waits = new int[MOST_SHIPS];
        private final Port port;
        /** The least water of each ship's stay, by berth and, within it, waiting. */
        private final int[][] water = new int[MOST_SHIPS][MOST_BERTHS * STARTS];
        /** In how many ways, by berth and waiting, each ship can lie safe if it is alone. */
        private final int[] places = new int[MOST_SHIPS];
        /** How many of the ships from each one on have any place at all. */
        private final int[] hopes = new int[MOST_SHIPS + 1];
        private final int[] trial = new int[MOST_SHIPS];
        private final int[] shipsIn = new int[MOST_BERTHS];
        private int mostFound;
        private int mostNow;
        private int lastShip;
        private int lastPlaces;
        private int lastGrowth;

        Planner(Port here) {
            port = here;
        }

        void begin(int day) {
            lastShip = NONE;
            for (int ship = 0; ship < port.ships; ship++) {
                for (int berth = 0; berth < port.berths; berth++) {
                    for (int wait = 0; wait <= port.settings[WAIT]; wait++) {
                        water[ship][STARTS * berth + wait] =
                                port.leastWater(berth, port.arrives[ship] + wait, port.stays[ship], day);
                    }
                }
            }
        }

        int findMost() {
            for (int ship = 0; ship < port.ships; ship++) {
                places[ship] = placesOf(ship, need[ship]);
            }
            mostNow = search(NONE);
            return mostNow;
        }

        /** By how many the most grows if a ship needs less; its places only grow, so as many are the same. */
        int growthBy(int ship, int lessNeed) {
            int morePlaces = placesOf(ship, lessNeed);
            if (morePlaces == places[ship]) {
                return 0;
            }
            if (ship != lastShip || morePlaces != lastPlaces) {
                lastGrowth = growthWith(ship, lessNeed, morePlaces);
                lastShip = ship;
                lastPlaces = morePlaces;
            }
            return lastGrowth;
        }

        private int growthWith(int ship, int lessNeed, int morePlaces) {
            int needBefore = need[ship];
            int placesBefore = places[ship];
            need[ship] = lessNeed;
            places[ship] = morePlaces;
            int growth = search(mostNow) - mostNow;
            need[ship] = needBefore;
            places[ship] = placesBefore;
            return growth;
        }

        private int placesOf(int ship, int needed) {
            int sum = 0;
            for (int berth = 0; berth < port.berths; berth++) {
                sum += placesIn(berth, ship, needed);
            }
            return sum;
        }

        private int placesIn(int berth, int ship, int needed) {
            int sum = 0;
            for (int wait = 0; wait <= port.settings[WAIT]; wait++) {
                if (needed <= water[ship][STARTS * berth + wait]) {
                    sum++;
                }
            }
            return sum;
        }

        /** The most, or atLeast if there is no row of more than that. */
        private int search(int atLeast) {
            hopes[port.ships] = 0;
            for (int ship = port.ships - 1; ship >= 0; ship--) {
                hopes[ship] = hopes[ship + 1] + (places[ship] > 0 ? 1 : 0);
            }
            for (int berth = 0; berth < port.berths; berth++) {
                shipsIn[berth] = 0;
            }
            mostFound = atLeast;
            tryFrom(0, 0);
            return mostFound;
        }

        /** Goes through the rows in their order, so that the first of the best is the one that stays. */
        private void tryFrom(int ship, int placed) {
            if (placed + hopes[ship] <= mostFound) {
                return;
            }
            if (ship >= port.ships) {
                mostFound = placed;
                System.arraycopy(trial, 0, found, 0, MOST_SHIPS);
                return;
            }
            int bit = 1 << ship;
            for (int berth = 0; berth < port.berths; berth++) {
                if (placesIn(berth, ship, need[ship]) > 0 && fits(berth, shipsIn[berth] | bit, 0, 0L)) {
                    shipsIn[berth] |= bit;
                    trial[ship] = berth;
                    tryFrom(ship + 1, placed + 1);
                    shipsIn[berth] &= ~bit;
                }
            }
            trial[ship] = NONE;
            tryFrom(ship + 1, placed);
        }

        /** Whether a set's ships from one on fit in a berth beside the taken hours: waits has the first way. */
        private boolean fits(int berth, int set, int ship, long taken) {
            if (ship >= port.ships) {
                return true;
            }
            if ((set & 1 << ship) == 0) {
                return fits(berth, set, ship + 1, taken);
            }
            long stay = ((1L << port.stays[ship]) - 1) << port.arrives[ship];
            for (int wait = 0; wait <= port.settings[WAIT]; wait++) {
                long hours = stay << wait;
                if (need[ship] <= water[ship][STARTS * berth + wait] && (hours & taken) == 0) {
                    waits[ship] = wait;
                    if (fits(berth, set, ship + 1, taken | hours)) {
                        return true;
                    }
                }
            }
            return false;
        }

        /** Berths don't meddle with one another: the first waits of each make the first row of waits. */
        void settleWaits() {
            for (int berth = 0; berth < port.berths; berth++) {
                int set = 0;
                for (int ship = 0; ship < port.ships; ship++) {
                    if (found[ship] == berth) {
                        set |= 1 << ship;
                    }
                }
                fits(berth, set, 0, 0L);
            }
        }
    }

    /** All ways to give each lost name a ship of its own. */
    private static final class NameRows {
        private int total;
        private final int[] allowed = new int[MOST_SHIPS];

        void begin(int names) {
            total = names;
            for (int i = 0; i < MOST_SHIPS; i++) {
                allowed[i] = 0;
            }
        }

        void allow(int one, int ship) {
            allowed[one] |= 1 << ship;
        }

        int countAll() {
            return countFrom(0, 0);
        }

        private int countFrom(int one, int taken) {
            if (one >= total) {
                return 1;
            }
            int rows = 0;
            for (int ship = 0; ship < total; ship++) {
                int bit = 1 << ship;
                if ((allowed[one] & bit) != 0 && (taken & bit) == 0) {
                    rows += countFrom(one + 1, taken | bit);
                }
            }
            return rows;
        }

        int shipsOf(int one) {
            int all = allowed[one];
            int ships = 0;
            for (int ship = 0; ship < total; ship++) {
                allowed[one] = all & 1 << ship;
                if (countFrom(0, 0) > 0) {
                    ships |= 1 << ship;
                }
            }
            allowed[one] = all;
            return ships;
        }
    }

    /** The tape, and how a harbour is read from it: the first fault stops all reading. */
    private static final class Reader {
        private static final int END = 0;
        private static final int WORD = 1;
        private static final int NUMBER = 2;
        private static final int SIGN = 3;
        private static final int BLANK = 4;
        private static final int STRANGE = 5;

        private static final int MISPLACED = 1;
        private static final int EXCESSIVE = 2;
        private static final int REPEATED = 3;

        int length;
        int faultPlace = NONE;
        private final byte[] tape = new byte[MOST_BYTES];
        private int faultKind;
        private int end;
        private int next;
        /** The token that is looked at goes from start to before next. */
        private int start;
        private int kind;
        private int settingsSeen;

        boolean hasRoomFor(int bytes) {
            return length + bytes <= MOST_BYTES;
        }

        void addNumber(int number) {
            for (int shift = 24; shift >= 0 && length < MOST_BYTES; shift -= 8) {
                tape[length] = (byte) (number >> shift);
                length++;
            }
        }

        /** The fault's kind, 0 without; the tape is empty then. */
        int readInto(Port into, int n) {
            into.empty();
            length = 0;
            end = n;
            next = 0;
            faultKind = 0;
            faultPlace = NONE;
            settingsSeen = 0;
            takeToken();
            for (int line = 0; line <= MOST_BYTES && kind != END && faultKind == 0; line++) {
                readLine(into);
            }
            return faultKind;
        }

        private void fail(int fault) {
            if (faultKind == 0) {
                faultKind = fault;
                faultPlace = start;
            }
        }

        private void readLine(Port into) {
            if (isWord("ship")) {
                readShip(into);
            } else if (isWord("person")) {
                readPerson(into);
            } else if (isWord("stone")) {
                readBerth(into, STONE);
            } else if (isWord("mud")) {
                readBerth(into, MUD);
            } else if (isWord("dock")) {
                readBerth(into, DOCK);
            } else if (isWord("tide")) {
                readSetting(into, TIDE, 40);
            } else if (isWord("clear")) {
                readSetting(into, CLEAR, 20);
            } else if (isWord("wait")) {
                readSetting(into, WAIT, MOST_WAIT);
            } else if (isWord("fee")) {
                readSetting(into, FEE, 999);
            } else {
                fail(MISPLACED);
            }
            if (kind != SIGN) {
                fail(MISPLACED);
            }
            takeToken();
        }

        private void readShip(Port into) {
            int ship = into.ships;
            if (ship >= MOST_SHIPS) {
                fail(EXCESSIVE);
                return;
            }
            into.low[ship] = readNumber(0, DEEPEST);
            into.high[ship] = readNumber(into.low[ship], DEEPEST);
            into.arrives[ship] = readNumber(0, 23);
            into.stays[ship] = readNumber(1, 12);
            takeToken();
            into.sink[ship] = 0;
            if (isWord("sink")) {
                into.sink[ship] = readNumber(0, 9);
                takeToken();
            }
            into.ships++;
        }

        private void readPerson(Port into) {
            if (into.persons >= MOST_PERSONS) {
                fail(EXCESSIVE);
                return;
            }
            into.persons++;
            takeToken();
        }

        private void readBerth(Port into, int berthKind) {
            int berth = into.berths;
            if (berth >= MOST_BERTHS) {
                fail(EXCESSIVE);
                return;
            }
            into.kinds[berth] = berthKind;
            into.depths[berth] = readNumber(0, 99);
            takeToken();
            into.silts[berth] = 0;
            if (isWord("silt")) {
                into.silts[berth] = readNumber(0, 9);
                takeToken();
            }
            into.berths++;
        }

        private void readSetting(Port into, int setting, int greatest) {
            int bit = 1 << setting;
            if ((settingsSeen & bit) != 0) {
                fail(REPEATED);
                return;
            }
            settingsSeen |= bit;
            into.settings[setting] = readNumber(0, greatest);
            takeToken();
        }

        private int readNumber(int least, int greatest) {
            takeToken();
            if (kind != NUMBER) {
                fail(MISPLACED);
                return least;
            }
            int value = valueOfToken();
            if (next - start > 3 || value < least || value > greatest) {
                fail(EXCESSIVE);
                return least;
            }
            return value;
        }

        /** By its first three digits, for a longer number is at fault whatever its value. */
        private int valueOfToken() {
            int value = 0;
            for (int i = start; i < next && i < start + 3; i++) {
                value = 10 * value + tape[i] - '0';
            }
            return value;
        }

        private boolean isWord(String word) {
            if (kind != WORD || next - start != word.length()) {
                return false;
            }
            for (int i = 0; i < word.length(); i++) {
                if (tape[start + i] != word.charAt(i)) {
                    return false;
                }
            }
            return true;
        }

        private void takeToken() {
            while (next < end && kindOf(tape[next]) == BLANK) {
                next++;
            }
            start = next;
            if (next >= end) {
                kind = END;
                return;
            }
            kind = kindOf(tape[next]);
            next++;
            if (kind == WORD || kind == NUMBER) {
                while (next < end && kindOf(tape[next]) == kind) {
                    next++;
                }
            }
        }

        private static int kindOf(int sign) {
            if (sign >= 'a' && sign <= 'z') {
                return WORD;
            }
            if (sign >= '0' && sign <= '9') {
                return NUMBER;
            }
            if (sign == 32 || sign == 10) {
                return BLANK;
            }
            return sign == ';' ? SIGN : STRANGE;
        }
    }
}
