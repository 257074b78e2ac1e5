import java.io.IOException;
import java.nio.file.Files;
import java.nio.file.Path;
import java.util.TreeSet;

/**
 * Checks under a heading: the promise, and the words of the document that name the edge.
 * The words are looked up in the document, so that no heading says what the document doesn't.
 */
final class Edges {
    private static final Path DOCUMENT = Path.of("../shared/DOC.md");

    private final Check check = new Check();
    private final TreeSet<Integer> promises = new TreeSet<>();
    private final String document;
    private String heading;
    private int asked;
    private int sentences;

    Edges() {
        String text = "";
        try {
            text = Files.readString(DOCUMENT).replaceAll("\\s+", " ");
        } catch (IOException e) {
            System.out.println("no " + DOCUMENT + ": the headings are not compared with it");
        }
        document = text;
    }

    /** What a promise says under its own heading. */
    void promise(int number, String words) {
        begin(number, words, "## Promise " + number + ": ");
    }

    /** What the terms say, tested by the calls of a promise. */
    void term(int number, String words) {
        begin(number, words, "## Terms ");
    }

    /** What the document says of every object. */
    void opening(int number, String words) {
        begin(number, words, "## What it is ");
    }

    private void begin(int number, String words, String section) {
        mustHaveAsked();
        heading = "promise " + number + " (" + words + "): ";
        promises.add(number);
        sentences++;
        asked = 0;
        if (!document.isEmpty()) {
            check.is(heading + "the document says so", sectionOf(section).contains(words), true);
        }
    }

    private String sectionOf(String title) {
        int from = document.indexOf(title);
        if (from < 0) {
            return "";
        }
        int to = document.indexOf(" ## ", from);
        return document.substring(from, to < 0 ? document.length() : to);
    }

    private void mustHaveAsked() {
        if (heading != null) {
            check.is(heading + "has a call", asked > 0, true);
        }
    }

    void is(String call, long got, long due) {
        asked++;
        check.is(heading + call, got, due);
    }

    void is(String call, boolean got, boolean due) {
        is(call, got ? 1 : 0, due ? 1 : 0);
    }

    void same(String call, String got, String due) {
        is(call + ": '" + got + "' for '" + due + "'", got.equals(due), true);
    }

    void noSuch(String call, Runnable run) {
        asked++;
        check.noSuch(heading + call, run);
    }

    void illegal(String call, Runnable run) {
        asked++;
        check.illegal(heading + call, run);
    }

    /** Ends the test, which must have had a heading for each promise from the first to the last. */
    void end(int first, int last) {
        mustHaveAsked();
        for (int number = first; number <= last; number++) {
            check.is("promise " + number + " has a heading", promises.contains(number), true);
        }
        System.out.print(sentences + " sentences: ");
        check.end();
    }

    /** All that can be seen of an object without changing it, but the image. */
    static String state(SoundHarbour x) {
        StringBuilder text = new StringBuilder("counts");
        for (int what = 0; what <= 11; what++) {
            text.append(' ').append(x.count(what));
        }
        return text.append(" fault ").append(x.fault()).append(' ').append(stateBehindStatus(x)).toString();
    }

    /** The same without the tape, the fault's place and STATUS. */
    static String stateBehindStatus(SoundHarbour x) {
        StringBuilder text = new StringBuilder("harbour");
        for (int what = 0; what <= 7; what++) {
            text.append(' ').append(x.count(what));
        }
        int ships = x.count(0);
        int now = x.count(7);
        for (int ship = 0; ship < ships; ship++) {
            for (int what = 0; what <= 7; what++) {
                text.append(what == 0 ? " ship " : " ").append(x.ship(ship, what));
            }
            text.append(" named ").append(x.names(ship));
            text.append(" lies ").append(placeOf(x, ship));
        }
        for (int person = x.count(1) - 1; person >= 0; person--) {
            for (int what = 0; what <= 4; what++) {
                text.append(what == 0 ? " person " : " ").append(x.person(person, what));
            }
            for (int ship = 0; ship < ships; ship++) {
                text.append(" knows ").append(x.span(person, ship, now, 0));
                text.append(" to ").append(x.span(person, ship, now, 1));
            }
        }
        for (int berth = x.count(2) - 1; berth >= 0; berth--) {
            text.append(" berth ").append(x.berth(berth, 0, 0)).append(' ').append(x.berth(berth, 3, 50));
        }
        return text.append(" liars ").append(x.liars()).append(" rows ").append(x.names(-1)).toString();
    }

    private static String placeOf(SoundHarbour x, int ship) {
        try {
            return x.row(ship, 0) + " " + x.row(ship, 1);
        } catch (java.util.NoSuchElementException e) {
            return "nowhere";
        }
    }

    /** THE ROW that is kept: its berths, then its hours of waiting ('-' for NONE). */
    static String row(SoundHarbour x) {
        StringBuilder text = new StringBuilder();
        for (int what = 0; what <= 1; what++) {
            for (int ship = 0; ship < x.count(0); ship++) {
                int one = x.row(ship, what);
                text.append(one == -1 ? "-" : Integer.toString(one));
            }
            text.append(what == 0 ? " " : "");
        }
        return text.toString();
    }
}
