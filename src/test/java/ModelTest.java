import java.util.NoSuchElementException;
import java.util.Random;
import java.util.function.LongSupplier;

/** All promises: runs of calls by chance (always the same ones), each answered by the class and by the model. */
public final class ModelTest {
    private static final String[] SCRAPS = {"ship", "person", "stone", "mud", "dock", "tide", "clear", "wait", "fee",
        "sink", "silt", ";", ";", "0", "5", "12", "60", "99", "1000", "x", " ", "\n", "S", "\u00e9", "7 "};

    private final Random chance;
    private final SoundHarbour x = new SoundHarbour();
    private final Model model = new Model();
    private final String run;
    private int calls;
    private int wrong;

    private ModelTest(long seed) {
        chance = new Random(seed);
        run = "run " + seed;
    }

    public static void main(String[] args) {
        int runs = args.length > 0 ? Integer.parseInt(args[0]) : 1500;
        int first = args.length > 1 ? Integer.parseInt(args[1]) : 1;
        long calls = 0;
        int wrong = 0;
        for (int seed = first; seed < first + runs; seed++) {
            ModelTest test = new ModelTest(seed);
            test.play();
            calls += test.calls;
            wrong += test.wrong;
        }
        System.out.println(calls + " calls, " + wrong + " answers unlike the model's");
        System.exit(wrong == 0 && calls > 0 ? 0 : 1);
    }

    private static String answer(LongSupplier call) {
        try {
            return Long.toString(call.getAsLong());
        } catch (NoSuchElementException e) {
            return "throws NoSuchElementException";
        } catch (IllegalArgumentException e) {
            return e.getClass() == IllegalArgumentException.class ? "throws IllegalArgumentException" : "" + e;
        } catch (RuntimeException e) {
            return "" + e;
        }
    }

    private void same(String call, LongSupplier own, LongSupplier due) {
        calls++;
        String got = answer(own);
        String want = answer(due);
        if (!got.equals(want)) {
            wrong++;
            System.out.println(run + ": " + call + " answered " + got + ", due is " + want);
        }
    }

    private int below(int bound) {
        return chance.nextInt(bound);
    }

    private int from(int least, int greatest) {
        return least + below(greatest - least + 1);
    }

    /** Mostly in bounds, now and then just out of them. */
    private int near(int least, int greatest) {
        int kind = below(60);
        if (kind == 0) {
            return least - 1;
        }
        if (kind == 1) {
            return greatest + 1;
        }
        return greatest < least ? least : from(least, greatest);
    }

    private void play() {
        tellText(goodText());
        while (calls < 480) {
            int kind = below(100);
            if (kind == 0) {
                tellText(below(2) == 0 ? goodText() : spoiled(goodText()));
            } else if (kind == 1) {
                tellText(scrapText());
            } else {
                call(below(30));
            }
        }
    }

    private String goodText() {
        StringBuilder text = new StringBuilder();
        int deep = from(5, 60);
        int water = from(5, 40);
        int ships = below(4) == 0 ? from(0, 5) : from(2, 5);
        int berths = below(4) == 0 ? from(0, 5) : from(1, 4);
        int late = below(2) == 0 ? 5 : 23;
        for (int i = 0; i < ships; i++) {
            int low = below(deep);
            text.append("ship ").append(low).append(' ').append(from(low, deep)).append(' ')
                    .append(from(0, late)).append(' ').append(from(1, 12));
            text.append(below(2) == 0 ? " sink " + below(10) + ";" : ";");
        }
        for (int i = from(below(8) == 0 ? 0 : 1, 4); i > 0; i--) {
            text.append("person;");
        }
        for (int i = 0; i < berths; i++) {
            text.append(new String[] {"stone ", "mud ", "dock "}[below(3)]).append(from(0, deep + water / 2));
            text.append(below(2) == 0 ? " silt " + below(10) + ";" : ";\n");
        }
        if (below(2) == 0) {
            text.append("tide ").append(below(41)).append(";");
        }
        if (below(3) == 0) {
            text.append("clear ").append(below(10)).append(";");
        }
        if (below(2) == 0) {
            text.append("wait ").append(below(3)).append(";");
        }
        if (below(2) == 0) {
            text.append("fee ").append(below(1000)).append(";");
        }
        return text.toString();
    }

    private String spoiled(String text) {
        StringBuilder more = new StringBuilder(text);
        for (int i = from(1, 2); i > 0; i--) {
            int at = below(more.length() + 1);
            if (below(3) == 0 && at < more.length()) {
                more.deleteCharAt(at);
            } else {
                more.insert(at, SCRAPS[below(SCRAPS.length)]);
            }
        }
        return more.toString();
    }

    private String scrapText() {
        StringBuilder text = new StringBuilder();
        for (int i = below(12); i > 0; i--) {
            text.append(SCRAPS[below(SCRAPS.length)]).append(below(3) == 0 ? "" : " ");
        }
        return text.toString();
    }

    private void tellText(String text) {
        for (int at = 0; at < text.length() && at < 500; at += 20) {
            int[] five = new int[5];
            for (int i = 0; i < 20; i++) {
                five[i / 4] = five[i / 4] << 8 | (at + i < text.length() ? text.charAt(at + i) : ' ');
            }
            same("feed", () -> x.feed(five[0], five[1], five[2], five[3], five[4]), () -> model.feed(five));
        }
        int n = below(20) == 0 ? near(0, model.count(8)) : Math.min(text.length(), model.count(8));
        same("harbour(" + n + ") of '" + text + "'", () -> x.harbour(n), () -> model.harbour(n));
        same("fault()", x::fault, model::fault);
    }

    private void call(int kind) {
        int person = near(0, model.count(1) - 1);
        int other = near(0, model.count(1) - 1);
        int ship = near(0, model.count(0) - 1);
        int berth = near(0, model.count(2) - 1);
        int hour = below(2) == 0 ? near(0, 99) : near(0, 23);
        int day = below(2) == 0 ? near(0, 9999) : near(0, 60);
        int depth = near(1, 60);
        int time = below(3) == 0 ? model.count(7) : near(0, model.count(7));
        int load = near(0, 99);
        int price = near(0, 999);
        boolean touches = below(2) == 0;
        String told = person + " " + other + " ship " + ship + " berth " + berth + " hour " + hour + " day " + day
                + " depth " + depth + " time " + time + " load " + load + " price " + price + " " + touches;
        switch (kind) {
            case 0: for (int w = -1; w <= 12; w++) {
                    int what = w;
                    same("count " + what, () -> x.count(what), () -> model.count(what));
                }
                break;
            case 1: for (int w = -1; w <= 8; w++) {
                    int what = w;
                    same("ship " + what + " " + told, () -> x.ship(ship, what), () -> model.ship(ship, what));
                }
                break;
            case 2: for (int w = -1; w <= 5; w++) {
                    int what = w;
                    same("person " + what + " " + told, () -> x.person(person, what), () -> model.person(person, what));
                }
                break;
            case 3: same("berth " + told, () -> x.berth(berth, hour, day), () -> model.berth(berth, hour, day));
                break;
            case 4: same("load " + told, () -> x.load(ship, load) ? 1 : 0, () -> model.load(ship, load) ? 1 : 0);
                break;
            case 5: case 6: case 7:
                same("lead " + told, () -> x.lead(person, ship, depth, touches),
                        () -> model.lead(person, ship, depth, touches));
                break;
            case 8: case 9: case 10: case 11:
                same("word " + told, () -> x.word(person, other, ship, depth, touches, price),
                        () -> model.word(person, other, ship, depth, touches, price));
                break;
            case 12: same("undo", x::undo, model::undo);
                break;
            case 13: same("liars", x::liars, model::liars);
                break;
            case 14: case 15:
                same("safe " + told, () -> x.safe(person, ship, berth, hour, day, time) ? 1 : 0,
                        () -> model.safe(person, ship, berth, hour, day, time) ? 1 : 0);
                break;
            default: callMore(kind, person, ship, berth, depth, told);
        }
    }

    private void callMore(int kind, int person, int ship, int berth, int depth, String told) {
        int what = near(0, 1);
        int time = near(0, model.count(7));
        int hour = near(0, 30);
        int day = below(3) == 0 ? near(0, 9999) : below(30);
        switch (kind) {
            case 16: case 17: case 18:
                same("most day " + day + " " + told, () -> x.most(person, day), () -> model.most(person, day));
                row();
                break;
            case 19: row();
                break;
            case 20: same("odds " + what + " " + told, () -> x.odds(person, ship, depth, what),
                        () -> model.odds(person, ship, depth, what));
                break;
            case 21: same("worth " + told, () -> x.worth(person, ship, depth), () -> model.worth(person, ship, depth));
                break;
            case 22: if (below(20) == 0) {
                    same("best 0 " + told, () -> x.best(person, 0), () -> model.best(person, 0));
                    same("best 1 " + told, () -> x.best(person, 1), () -> model.best(person, 1));
                    same("best " + what, () -> x.best(9, what), () -> model.best(9, what));
                }
                break;
            case 23: same("until " + told, () -> x.until(person, ship, berth), () -> model.until(person, ship, berth));
                break;
            case 24: same("bears " + told, () -> x.bears(person, ship, berth), () -> model.bears(person, ship, berth));
                break;
            case 25: case 26:
                for (int k = 0; k <= 61; k += from(1, 9)) {
                    int keel = k;
                    same("aground hour " + hour + " keel " + keel + " time " + time + " " + told,
                            () -> x.aground(person, ship, berth, hour, keel, time),
                            () -> model.aground(person, ship, berth, hour, keel, time));
                }
                break;
            case 27: names(ship);
                break;
            case 28: spans(person, ship, time);
                break;
            default: images();
        }
    }

    private void row() {
        for (int i = 0; i <= 5; i++) {
            int ship = i;
            int what = near(0, 1);
            same("row " + ship + " " + what, () -> x.row(ship, what), () -> model.row(ship, what));
        }
    }

    private void names(int name) {
        int low = near(0, 60);
        int high = near(0, 60);
        same("name " + name + " " + low + " " + high, () -> x.name(name, low, high) ? 1 : 0,
                () -> model.name(name, low, high) ? 1 : 0);
        for (int i = -2; i <= 5; i++) {
            int one = i;
            same("names " + one, () -> x.names(one), () -> model.names(one));
        }
    }

    private void spans(int person, int ship, int time) {
        for (int w = -1; w <= 3; w++) {
            int what = w;
            same("span " + person + " " + ship + " " + time + " " + what, () -> x.span(person, ship, time, what),
                    () -> model.span(person, ship, time, what));
        }
    }

    private void images() {
        if (below(2) == 0) {
            x.image();
            model.image();
        } else {
            same("restore", () -> x.restore() ? 1 : 0, () -> model.restore() ? 1 : 0);
        }
    }
}
