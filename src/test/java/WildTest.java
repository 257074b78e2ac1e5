import java.lang.reflect.InvocationTargetException;
import java.lang.reflect.Method;
import java.lang.reflect.Modifier;
import java.util.Arrays;
import java.util.Comparator;
import java.util.List;
import java.util.Random;

/**
 * Promises 1 to 27: every call with any numbers at all (always the same ones): only exceptions that the face names come
 * out, of exactly the class that it names, and a call that throws changes nothing.
 */
public final class WildTest {
    private static final int[] FAR = {Integer.MIN_VALUE, Integer.MIN_VALUE + 1, -1000, -2, -1, 5, 6, 12, 23, 59, 60, 61,
        79, 80, 81, 99, 100, 499, 500, 501, 999, 1000, 9999, 10000, Integer.MAX_VALUE - 12, Integer.MAX_VALUE};
    private static final int LOOKS = 13;
    private static final int[] NOT_SEEN = {};
    private static final String[] TEXTS = {
        "",
        "person;person;",
        "ship 0 60 23 12 sink 9;person;person;person;person;stone 99;dock 99 silt 9;mud 0;",
        "ship 5 10 0 2;ship 3 40 1 3 sink 2;ship 7 9 2 4;person;person;stone 10 silt 2;mud 12;tide 12;wait 2;",
        "ship 1 9 0 12;ship 2 9 1 12;ship 3 9 2 12;ship 4 60 3 12;ship 0 60 4 12 sink 9;person;person;person;person;"
            + "stone 9;mud 9;dock 9;stone 30 silt 9;mud 50 silt 1;tide 40;clear 20;wait 2;fee 999;",
    };

    private final Random chance;
    private final List<Method> calls;
    /** All calls on the object, those that only look at it too. */
    private int asked;
    private int made;
    private int thrown;
    private int wrong;

    private WildTest(long seed, List<Method> face) {
        chance = new Random(seed);
        calls = face;
    }

    public static void main(String[] args) throws IllegalAccessException {
        List<Method> face = Arrays.stream(SoundHarbour.class.getDeclaredMethods())
                .filter(method -> Modifier.isPublic(method.getModifiers()))
                .sorted(Comparator.comparing(Method::getName)).toList();
        int made = 0;
        int thrown = 0;
        int wrong = 0;
        for (int seed = 1; seed <= 1000; seed++) {
            WildTest test = new WildTest(seed, face);
            test.play(TEXTS[seed % TEXTS.length]);
            made += test.made;
            thrown += test.thrown;
            wrong += test.wrong;
        }
        System.out.println(made + " calls, of which " + thrown + " throw, " + wrong + " wrongly");
        System.exit(wrong == 0 && thrown > 0 && thrown < made ? 0 : 1);
    }

    private void play(String text) throws IllegalAccessException {
        SoundHarbour x = Check.harbour(text);
        asked = text.length() / 20 + 2;
        while (asked < 512 - 2 * LOOKS) {
            Method method = calls.get(chance.nextInt(calls.size()));
            boolean isSpared = method.getName().equals("harbour") && chance.nextInt(8) != 0;
            if (!isSpared) {
                call(x, method, numbersFor(method));
            }
        }
    }

    private Object[] numbersFor(Method method) {
        Object[] numbers = new Object[method.getParameterCount()];
        for (int i = 0; i < numbers.length; i++) {
            numbers[i] = method.getParameterTypes()[i] == boolean.class ? (Object) chance.nextBoolean() : anyNumber();
        }
        return numbers;
    }

    private Integer anyNumber() {
        switch (chance.nextInt(12)) {
            case 0: return FAR[chance.nextInt(FAR.length)];
            case 1: return chance.nextInt();
            case 2: return chance.nextInt(62);
            default: return chance.nextInt(3);
        }
    }

    private void call(SoundHarbour x, Method method, Object[] numbers) throws IllegalAccessException {
        made++;
        asked++;
        boolean isWatched = chance.nextInt(12) == 0;
        int[] before = isWatched ? counts(x) : NOT_SEEN;
        try {
            method.invoke(x, numbers);
        } catch (InvocationTargetException e) {
            thrown++;
            Class<?> kind = e.getCause().getClass();
            int[] behind = isWatched ? counts(x) : NOT_SEEN;
            if (!Arrays.asList(method.getExceptionTypes()).contains(kind) || !Arrays.equals(before, behind)) {
                wrong++;
                System.out.println(method.getName() + Arrays.toString(numbers) + " threw " + kind.getName()
                        + ", counts " + Arrays.toString(before) + " then " + Arrays.toString(behind));
            }
        }
    }

    private int[] counts(SoundHarbour x) {
        asked += LOOKS;
        int[] all = new int[LOOKS];
        for (int what = 0; what < LOOKS - 1; what++) {
            all[what] = x.count(what);
        }
        all[LOOKS - 1] = x.fault();
        return all;
    }
}
