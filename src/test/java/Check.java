import java.util.NoSuchElementException;

/** Counts the calls whose answer is the one that is due, and prints the others. */
final class Check {
    private int right;
    private int wrong;

    void is(String call, long got, long due) {
        if (got == due) {
            right++;
        } else {
            wrong++;
            System.out.println(call + " answered " + got + ", due is " + due);
        }
    }

    void is(String call, boolean got, boolean due) {
        is(call, got ? 1 : 0, due ? 1 : 0);
    }

    void noSuch(String call, Runnable run) {
        thrown(call, run, NoSuchElementException.class);
    }

    void illegal(String call, Runnable run) {
        thrown(call, run, IllegalArgumentException.class);
    }

    private void thrown(String call, Runnable run, Class<?> due) {
        String got = "nothing";
        try {
            run.run();
        } catch (RuntimeException e) {
            if (e.getClass() == due) {
                right++;
                return;
            }
            got = e.getClass().getName();
        }
        wrong++;
        System.out.println(call + " threw " + got + ", due is " + due.getName());
    }

    void end() {
        System.out.println(right + " answers right, " + wrong + " wrong");
        System.exit(wrong == 0 && right > 0 ? 0 : 1);
    }

    /** Feeds a text, with blanks behind it up to whole feeds: how many bytes the text itself has. */
    static int feed(SoundHarbour x, String text) {
        int length = text.length();
        for (int from = 0; from < length; from += 20) {
            int[] five = new int[5];
            for (int i = 0; i < 20; i++) {
                int sign = from + i < length ? text.charAt(from + i) : ' ';
                five[i / 4] = five[i / 4] << 8 | sign;
            }
            x.feed(five[0], five[1], five[2], five[3], five[4]);
        }
        return length;
    }

    static int tell(SoundHarbour x, String text) {
        return x.harbour(feed(x, text));
    }

    /** A new object with the harbour of a text, which must have no fault. */
    static SoundHarbour harbour(String text) {
        SoundHarbour x = new SoundHarbour();
        if (tell(x, text) != 0) {
            throw new IllegalStateException("the test's own text has a fault: " + text);
        }
        return x;
    }
}
