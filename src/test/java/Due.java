import java.lang.reflect.InvocationTargetException;
import java.lang.reflect.Method;
import java.util.Arrays;
import java.util.Comparator;
import java.util.function.Predicate;
import java.util.function.Supplier;
import java.util.function.ToLongFunction;

/** Compares answers with what is due, prints each that differs, and ends the test. */
final class Due {
    private int asked = 0;
    private int wrong = 0;
    // The test that is running, for what is printed.
    private String about = "";

    void is(String call, long got, long want) {
        asked++;
        if (got != want) {
            wrong++;
            System.out.println(about + call + " answered " + got + ", due is " + want);
        }
    }

    void yes(String call, boolean got) {
        is(call, got ? 1 : 0, 1);
    }

    void no(String call, boolean got) {
        is(call, got ? 1 : 0, 0);
    }

    /** The call answers NONE, and an object that had it is like one that had not. */
    void refused(String call, Supplier<BeastRoad> scene, ToLongFunction<BeastRoad> made) {
        BeastRoad road = scene.get();
        is(call, made.applyAsLong(road), BeastRoad.NONE);
        long[] before = Scene.view(scene.get());
        long[] behind = Scene.view(road);
        yes(call + " was refused, but changed something; that is", Arrays.equals(before, behind));
    }

    /** Like refused, for calls that answer false. */
    void denied(String call, Supplier<BeastRoad> scene, Predicate<BeastRoad> made) {
        refused(call, scene, road -> made.test(road) ? 1 : BeastRoad.NONE);
    }

    /** Runs each test of a class: its methods named by p, the promise's number, and what they test. */
    void runEach(Class<?> tests) throws IllegalAccessException, InvocationTargetException {
        Method[] methods = tests.getDeclaredMethods();
        Arrays.sort(methods, Comparator.comparing(Method::getName));
        int run = 0;
        for (Method method : methods) {
            if (method.getName().matches("p[0-9][0-9].*")) {
                about = method.getName() + ": ";
                method.invoke(null);
                run++;
            }
        }
        about = "";
        yes("some tests ran; that", run > 0);
        System.out.print(run + " tests, ");
        end();
    }

    void end() {
        System.out.println(asked + " answers, " + wrong + " not as due");
        if (wrong != 0) {
            System.exit(1);
        }
    }

    /** Feeds a text to the tape, filled up with bytes of 0; the last answer of feed. */
    static int feedText(BeastRoad road, String text) {
        int answer = road.count(6);
        for (int at = 0; at < text.length(); at += 20) {
            answer = road.feed(four(text, at), four(text, at + 4), four(text, at + 8),
                    four(text, at + 12), four(text, at + 16));
        }
        return answer;
    }

    private static int four(String text, int at) {
        int number = 0;
        for (int i = at; i < at + 4; i++) {
            number = number << 8 | (i < text.length() ? text.charAt(i) & 255 : 0);
        }
        return number;
    }

    /** Numbers out of bounds: the next ones, far ones, and ones whose lower bits are within. */
    static int[] outside(int least, int most) {
        int[] numbers = {least - 1, most + 1, least - 2, most + 2, Integer.MIN_VALUE, Integer.MAX_VALUE,
            Integer.MIN_VALUE + most, Integer.MAX_VALUE - 1, most + 32, most + 256, least + 65_536, least - 65_536};
        return Arrays.stream(numbers).filter(number -> number < least || number > most).toArray();
    }
}
