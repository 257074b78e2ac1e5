import java.util.ArrayList;
import java.util.List;
import java.util.NoSuchElementException;

/**
 * The document once more, in the slowest and plainest way: keels one by one, rows one by one.
 * It shares no code and no shortcut with the class, so that a shortcut that is wrong shows.
 */
final class Model {
    record Ship(int low, int high, int arrives, int stays, int sink) { }

    record Berth(String kind, int depth, int silt) { }

    /** buyer is -1 for a lead. */
    record Event(int person, int buyer, int ship, int depth, boolean touches, int price) {
        boolean allows(int keel) {
            return touches == (keel >= depth);
        }

        boolean isLead() {
            return buyer == -1;
        }

        boolean isKnownTo(int who) {
            return isLead() ? person == who : buyer == who;
        }
    }

    private static final int NONE = -1;

    private String tape = "";
    private List<Ship> ships = new ArrayList<>();
    private List<Berth> berths = new ArrayList<>();
    private int persons;
    private int[] settings = new int[4];
    private List<Event> events = new ArrayList<>();
    private int[] loads = new int[5];
    private int[][] names = new int[5][2];
    private int[] status = new int[3];
    private int faultPlace = NONE;
    private int[][] row;
    private List<Event> keptEvents;
    private int[] keptLoads;
    private int[][] keptNames;
    private int[] keptStatus;

    int feed(int... numbers) {
        if (tape.length() + 20 > 500) {
            return NONE;
        }
        StringBuilder more = new StringBuilder(tape);
        for (int number : numbers) {
            for (int i = 3; i >= 0; i--) {
                more.append((char) (number >>> 8 * i & 255));
            }
        }
        tape = more.toString();
        return tape.length();
    }

    int harbour(int n) {
        if (n < 0 || n > tape.length()) {
            throw new IllegalArgumentException();
        }
        ModelText text = new ModelText(tape.substring(0, n));
        tape = "";
        text.read();
        faultPlace = text.faultPlace;
        if (text.faultKind != 0) {
            status[0]++;
            return text.faultKind;
        }
        ships = text.ships;
        berths = text.berths;
        persons = text.persons;
        settings = text.settings;
        events = new ArrayList<>();
        loads = new int[5];
        names = new int[5][];
        for (int i = 0; i < 5; i++) {
            names[i] = new int[] {0, 60};
        }
        row = null;
        keptEvents = null;
        return 0;
    }

    int fault() {
        return faultPlace;
    }

    private static void must(boolean there) {
        if (!there) {
            throw new NoSuchElementException();
        }
    }

    private static void legal(boolean is) {
        if (!is) {
            throw new IllegalArgumentException();
        }
    }

    private static boolean in(int x, int from, int to) {
        return from <= x && x <= to;
    }

    private void mustShip(int ship) {
        must(in(ship, 0, ships.size() - 1));
    }

    private void mustPerson(int person) {
        must(in(person, 0, persons - 1));
    }

    private void mustBerth(int berth) {
        must(in(berth, 0, berths.size() - 1));
    }

    int count(int what) {
        must(in(what, 0, 11));
        int[] all = {ships.size(), persons, berths.size(), settings[0], settings[1], settings[2], settings[3],
            events.size(), tape.length(), status[0], status[1], status[2]};
        return all[what];
    }

    private List<Integer> keelsBy(int ship, List<Event> taken) {
        List<Integer> keels = new ArrayList<>();
        for (int keel = ships.get(ship).low(); keel <= ships.get(ship).high(); keel++) {
            boolean isLeft = true;
            for (Event event : taken) {
                isLeft &= event.ship() != ship || event.allows(keel);
            }
            if (isLeft) {
                keels.add(keel);
            }
        }
        return keels;
    }

    private List<Integer> trueKeels(int ship) {
        return keelsBy(ship, events.stream().filter(Event::isLead).toList());
    }

    private List<Integer> keels(int person, int ship, int time) {
        return keelsBy(ship, events.subList(0, time).stream().filter(e -> e.isKnownTo(person)).toList());
    }

    int ship(int ship, int what) {
        mustShip(ship);
        must(in(what, 0, 7));
        Ship s = ships.get(ship);
        List<Integer> left = trueKeels(ship);
        int[] all = {s.low(), s.high(), s.arrives(), s.stays(), s.sink(), loads[ship],
            left.get(0), left.get(left.size() - 1)};
        return all[what];
    }

    int person(int person, int what) {
        mustPerson(person);
        must(in(what, 0, 4));
        int[] all = new int[5];
        for (Event e : events) {
            if (e.isLead() && e.person() == person) {
                all[0] += settings[3];
                all[2]++;
            } else if (!e.isLead() && e.person() == person) {
                all[1] += e.price();
                all[3]++;
            } else if (!e.isLead() && e.buyer() == person) {
                all[0] += e.price();
                all[4]++;
            }
        }
        return all[what];
    }

    private int tide(int hour) {
        int far = hour % 12 > 6 ? hour % 12 - 6 : 6 - hour % 12;
        return (int) Math.floor(settings[0] * (6 - far) / 6.0);
    }

    private int water(int berth, int hour, int day) {
        Berth b = berths.get(berth);
        int bottom = b.depth() - (int) Math.floor(b.silt() * day / 10.0);
        if (bottom < 0) {
            bottom = 0;
        }
        switch (b.kind()) {
            case "stone": return bottom + tide(hour);
            case "mud": return bottom + tide(hour) + 2;
            default: return bottom + tide(6);
        }
    }

    int berth(int berth, int hour, int day) {
        mustBerth(berth);
        must(in(hour, 0, 99) && in(day, 0, 9999));
        return water(berth, hour, day);
    }

    boolean load(int ship, int load) {
        mustShip(ship);
        if (!in(load, 0, 99)) {
            return false;
        }
        loads[ship] = load;
        return true;
    }

    int lead(int person, int ship, int depth, boolean touches) {
        mustPerson(person);
        mustShip(ship);
        boolean can = events.size() < 80 && in(depth, 1, 60);
        for (Event e : events) {
            can &= !(e.isLead() && e.person() == person && e.ship() == ship);
        }
        Event event = new Event(person, NONE, ship, depth, touches, 0);
        can = can && trueKeels(ship).stream().anyMatch(event::allows);
        return add(event, can);
    }

    private int add(Event event, boolean can) {
        if (!can) {
            status[1]++;
            return NONE;
        }
        events.add(event);
        return events.size();
    }

    int word(int seller, int buyer, int ship, int depth, boolean touches, int price) {
        mustPerson(seller);
        mustPerson(buyer);
        mustShip(ship);
        boolean can = events.size() < 80 && in(depth, 1, 60) && seller != buyer && in(price, 0, 999);
        return add(new Event(seller, buyer, ship, depth, touches, price), can);
    }

    int undo() {
        if (events.isEmpty()) {
            return NONE;
        }
        events.remove(events.size() - 1);
        return events.size();
    }

    int span(int person, int ship, int time, int what) {
        mustPerson(person);
        mustShip(ship);
        must(in(what, 0, 2));
        legal(in(time, 0, events.size()));
        List<Integer> keels = keels(person, ship, time);
        if (what == 2) {
            return keels.size();
        }
        return keels.isEmpty() ? NONE : keels.get(what == 0 ? 0 : keels.size() - 1);
    }

    int liars() {
        for (int size = 0; size <= persons; size++) {
            for (int set = 0; set < 1 << persons; set++) {
                int who = set;
                List<Event> taken = events.stream()
                        .filter(e -> e.isLead() || (who & 1 << e.person()) == 0).toList();
                boolean works = Integer.bitCount(set) == size;
                for (int ship = 0; works && ship < ships.size(); ship++) {
                    works = !keelsBy(ship, taken).isEmpty();
                }
                if (works) {
                    return set;
                }
            }
        }
        throw new IllegalStateException("leads alone can't be against one another");
    }

    private boolean isSafe(List<Integer> keels, int ship, int berth, int hour, int day, int load) {
        if (keels.isEmpty()) {
            return false;
        }
        int keel = keels.get(keels.size() - 1) + load / 10 * ships.get(ship).sink() + settings[1];
        for (int h = hour; h < hour + ships.get(ship).stays(); h++) {
            if (keel > water(berth, h, day)) {
                return false;
            }
        }
        return true;
    }

    boolean safe(int person, int ship, int berth, int hour, int day, int time) {
        mustPerson(person);
        mustShip(ship);
        mustBerth(berth);
        must(in(hour, 0, 99) && in(day, 0, 9999));
        legal(in(time, 0, events.size()));
        return isSafe(keels(person, ship, time), ship, berth, hour, day, loads[ship]);
    }

    /** All rows are made; the best is the one with most ships, then the first by berths, then by waits. */
    private int[][] bestRow(int person, int day) {
        boolean[][][] isSafe = new boolean[5][5][3];
        for (int ship = 0; ship < ships.size(); ship++) {
            List<Integer> keels = keels(person, ship, events.size());
            for (int berth = 0; berth < berths.size(); berth++) {
                for (int wait = 0; wait <= settings[2]; wait++) {
                    isSafe[ship][berth][wait] = isSafe(keels, ship, berth,
                            ships.get(ship).arrives() + wait, day, loads[ship]);
                }
            }
        }
        int[][] trial = new int[2][ships.size()];
        int[][][] best = new int[1][][];
        tryRows(0, trial, best, isSafe, new boolean[5][64]);
        return best[0];
    }

    private void tryRows(int ship, int[][] trial, int[][][] best, boolean[][][] isSafe, boolean[][] taken) {
        if (ship == ships.size()) {
            if (best[0] == null || isBefore(trial, best[0])) {
                best[0] = new int[][] {trial[0].clone(), trial[1].clone()};
            }
            return;
        }
        for (int wait = 0; wait <= settings[2]; wait++) {
            for (int berth = 0; berth < berths.size(); berth++) {
                int from = ships.get(ship).arrives() + wait;
                int to = from + ships.get(ship).stays();
                boolean can = isSafe[ship][berth][wait];
                for (int h = from; h < to; h++) {
                    can &= !taken[berth][h];
                }
                if (can) {
                    java.util.Arrays.fill(taken[berth], from, to, true);
                    trial[0][ship] = berth;
                    trial[1][ship] = wait;
                    tryRows(ship + 1, trial, best, isSafe, taken);
                    java.util.Arrays.fill(taken[berth], from, to, false);
                }
            }
        }
        trial[0][ship] = NONE;
        trial[1][ship] = NONE;
        tryRows(ship + 1, trial, best, isSafe, taken);
    }

    private static int placed(int[][] row) {
        int placed = 0;
        for (int berth : row[0]) {
            placed += berth == NONE ? 0 : 1;
        }
        return placed;
    }

    private static boolean isBefore(int[][] a, int[][] b) {
        if (placed(a) != placed(b)) {
            return placed(a) > placed(b);
        }
        for (int part = 0; part < 2; part++) {
            for (int i = 0; i < a[part].length; i++) {
                int x = a[part][i] == NONE ? 99 : a[part][i];
                int y = b[part][i] == NONE ? 99 : b[part][i];
                if (x != y) {
                    return x < y;
                }
            }
        }
        return false;
    }

    int most(int person, int day) {
        mustPerson(person);
        must(in(day, 0, 9999));
        row = bestRow(person, day);
        return placed(row);
    }

    int row(int ship, int what) {
        mustShip(ship);
        must(row != null && in(what, 0, 1));
        return row[what][ship];
    }

    int odds(int person, int ship, int d, int what) {
        mustPerson(person);
        mustShip(ship);
        must(in(what, 0, 1));
        legal(in(d, 1, 60));
        List<Integer> keels = keels(person, ship, events.size());
        int upper = (int) keels.stream().filter(k -> k >= d).count();
        int lower = keels.size();
        if (upper == 0) {
            lower = 1;
        }
        for (int by = lower; by > 1; by--) {
            if (upper % by == 0 && lower % by == 0) {
                upper /= by;
                lower /= by;
            }
        }
        return what == 0 ? upper : lower;
    }

    private int worthOf(int person, int ship, int d) {
        List<Integer> keels = keels(person, ship, events.size());
        long below = keels.stream().filter(k -> k < d).count();
        if (keels.isEmpty() || below == 0) {
            return 0;
        }
        int before = placed(bestRow(person, 0));
        events.add(new Event(person, NONE, ship, d, false, 0));
        int behind = placed(bestRow(person, 0));
        events.remove(events.size() - 1);
        return (int) ((behind - before) * 1000 * below / keels.size());
    }

    int worth(int person, int ship, int d) {
        mustPerson(person);
        mustShip(ship);
        legal(in(d, 1, 60));
        return worthOf(person, ship, d);
    }

    int best(int person, int what) {
        mustPerson(person);
        must(in(what, 0, 1));
        int lead = NONE;
        int worth = NONE;
        for (int ship = ships.size() - 1; ship >= 0; ship--) {
            int beside = ship;
            if (events.stream().noneMatch(e -> e.isLead() && e.person() == person && e.ship() == beside)) {
                for (int d = 60; d >= 1; d--) {
                    int one = worthOf(person, ship, d);
                    if (one >= worth) {
                        worth = one;
                        lead = 100 * ship + d;
                    }
                }
            }
        }
        return what == 0 ? lead : worth;
    }

    int until(int person, int ship, int berth) {
        mustPerson(person);
        mustShip(ship);
        mustBerth(berth);
        List<Integer> keels = keels(person, ship, events.size());
        for (int day = 0; day <= 9999; day++) {
            if (!isSafe(keels, ship, berth, ships.get(ship).arrives(), day, loads[ship])) {
                return day - 1;
            }
        }
        return 9999;
    }

    int bears(int person, int ship, int berth) {
        mustPerson(person);
        mustShip(ship);
        mustBerth(berth);
        List<Integer> keels = keels(person, ship, events.size());
        int load = NONE;
        while (load < 99 && isSafe(keels, ship, berth, ships.get(ship).arrives(), 0, load + 1)) {
            load++;
        }
        return load;
    }

    int aground(int person, int ship, int berth, int hour, int keel, int time) {
        mustPerson(person);
        mustShip(ship);
        mustBerth(berth);
        must(in(hour, 0, 99));
        legal(in(time, 0, events.size()));
        if (!trueKeels(ship).contains(keel)) {
            return NONE;
        }
        boolean isAground = false;
        for (int h = hour; h < hour + ships.get(ship).stays(); h++) {
            isAground |= keel + loads[ship] / 10 * ships.get(ship).sink() > water(berth, h, 0);
        }
        if (!isAground) {
            return 0;
        }
        if (!isSafe(keels(person, ship, time), ship, berth, hour, 0, loads[ship])) {
            return 1;
        }
        for (int seller = 0; seller < persons; seller++) {
            for (int i = 0; i < time; i++) {
                Event e = events.get(i);
                if (!e.isLead() && e.person() == seller && e.buyer() == person && e.ship() == ship
                        && !e.allows(keel)) {
                    List<Event> others = new ArrayList<>(events.subList(0, time));
                    others.remove(i);
                    others.removeIf(o -> !o.isKnownTo(person));
                    if (!isSafe(keelsBy(ship, others), ship, berth, hour, 0, loads[ship])) {
                        return 10 + seller;
                    }
                }
            }
        }
        return 2;
    }

    boolean name(int name, int from, int to) {
        mustShip(name);
        if (!in(from, 0, 60) || !in(to, 0, 60) || from > to) {
            status[2]++;
            return false;
        }
        names[name] = new int[] {from, to};
        return true;
    }

    int names(int name) {
        must(in(name, NONE, ships.size() - 1));
        List<int[]> rows = new ArrayList<>();
        nameRows(0, new int[ships.size()], rows);
        if (name == NONE) {
            return rows.size();
        }
        int bits = 0;
        for (int[] one : rows) {
            bits |= 1 << one[name];
        }
        return bits;
    }

    private void nameRows(int name, int[] trial, List<int[]> rows) {
        if (name == trial.length) {
            rows.add(trial.clone());
            return;
        }
        for (int ship = 0; ship < trial.length; ship++) {
            boolean isFree = true;
            for (int i = 0; i < name; i++) {
                isFree &= trial[i] != ship;
            }
            if (isFree && trueKeels(ship).stream().anyMatch(k -> in(k, names[name][0], names[name][1]))) {
                trial[name] = ship;
                nameRows(name + 1, trial, rows);
            }
        }
    }

    void image() {
        keptEvents = new ArrayList<>(events);
        keptLoads = loads.clone();
        keptNames = names.clone();
        keptStatus = status.clone();
    }

    boolean restore() {
        if (keptEvents == null) {
            return false;
        }
        events = new ArrayList<>(keptEvents);
        loads = keptLoads.clone();
        names = keptNames.clone();
        status = keptStatus.clone();
        return true;
    }
}
