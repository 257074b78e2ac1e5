import java.util.ArrayList;
import java.util.List;
import java.util.regex.Matcher;
import java.util.regex.Pattern;

/** The model's reading of a text: tokens by a pattern, then one of them after the other. */
final class ModelText {
    private static final Pattern TOKEN = Pattern.compile("[a-z]+|[0-9]+|;|[^ \n]");

    final List<Model.Ship> ships = new ArrayList<>();
    final List<Model.Berth> berths = new ArrayList<>();
    final int[] settings = new int[4];
    int persons;
    int faultKind;
    int faultPlace = -1;

    private final List<String> tokens = new ArrayList<>();
    private final List<Integer> places = new ArrayList<>();
    private final List<String> seen = new ArrayList<>();
    private int at;

    private static final class Stop extends RuntimeException {
        private static final long serialVersionUID = 1L;
    }

    ModelText(String text) {
        Matcher matcher = TOKEN.matcher(text);
        while (matcher.find()) {
            tokens.add(matcher.group());
            places.add(matcher.start());
        }
        tokens.add("");
        places.add(text.length());
    }

    void read() {
        try {
            while (!tokens.get(at).isEmpty()) {
                line(tokens.get(at));
            }
        } catch (Stop stop) {
            faultPlace = places.get(at);
        }
    }

    private void fail(int kind) {
        faultKind = kind;
        throw new Stop();
    }

    private void line(String head) {
        switch (head) {
            case "ship": ship(); break;
            case "person":
                if (persons == 4) {
                    fail(2);
                }
                persons++;
                at++;
                break;
            case "stone":
            case "mud":
            case "dock": berth(head); break;
            case "tide": setting(0, 40); break;
            case "clear": setting(1, 20); break;
            case "wait": setting(2, 2); break;
            case "fee": setting(3, 999); break;
            default: fail(1);
        }
        if (!tokens.get(at).equals(";")) {
            fail(1);
        }
        at++;
    }

    private int number(int least, int greatest) {
        String token = tokens.get(at);
        if (!token.matches("[0-9]+")) {
            fail(1);
        }
        if (token.length() > 3) {
            fail(2);
        }
        int value = Integer.parseInt(token);
        if (value < least || value > greatest) {
            fail(2);
        }
        at++;
        return value;
    }

    private int option(String word) {
        if (!tokens.get(at).equals(word)) {
            return 0;
        }
        at++;
        return number(0, 9);
    }

    private void ship() {
        if (ships.size() == 5) {
            fail(2);
        }
        at++;
        int low = number(0, 60);
        int high = number(low, 60);
        int arrives = number(0, 23);
        int stays = number(1, 12);
        ships.add(new Model.Ship(low, high, arrives, stays, option("sink")));
    }

    private void berth(String kind) {
        if (berths.size() == 5) {
            fail(2);
        }
        at++;
        int depth = number(0, 99);
        berths.add(new Model.Berth(kind, depth, option("silt")));
    }

    private void setting(int which, int greatest) {
        if (seen.contains(tokens.get(at))) {
            fail(3);
        }
        seen.add(tokens.get(at));
        at++;
        settings[which] = number(0, greatest);
    }
}
