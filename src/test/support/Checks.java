import java.lang.reflect.InvocationTargetException;
import java.lang.reflect.Method;
import java.util.ArrayList;
import java.util.Comparator;
import java.util.List;

/** What the tests share: how an answer is looked at, how a text is fed, and how all tests of a class are run. */
abstract class Checks {
    private static int looked = 0;
    private static int wrong = 0;
    private static String test = "";

    static void due(String call, long got, long want) {
        looked++;
        if (got != want) {
            wrong++;
            System.out.println(test + ": " + call + " answered " + got + ", due is " + want);
        }
    }

    /** Feeds a text, eight bytes at a time. */
    static void tape(AgesByMiles x, String text) {
        for (int i = 0; i < text.length(); i += 8) {
            int n = Math.min(8, text.length() - i);
            long bytes = 0;
            for (int k = n - 1; k >= 0; k--) {
                bytes = bytes << 8 | text.charAt(i + k);
            }
            x.feed(n, bytes);
        }
    }

    static int tell(AgesByMiles x, String text) {
        tape(x, text);
        return x.land();
    }

    /** A new object with LANDS told, one after the other. */
    static AgesByMiles with(String... texts) {
        AgesByMiles x = new AgesByMiles();
        for (String text : texts) {
            due("land of " + text, tell(x, text) > 0 ? 1 : 0, 1);
        }
        return x;
    }

    /** As a call that answers a long tells a refusal. */
    static long as(int refusal) {
        return 4000000000000000000L - refusal;
    }

    /** Runs each method whose name begins with "promise", by the promises' numbers, and ends with 1 if one fails. */
    static void runAll(Class<?> tests) {
        List<Method> found = new ArrayList<>();
        for (Method method : tests.getDeclaredMethods()) {
            if (method.getName().startsWith("promise")) {
                found.add(method);
            }
        }
        found.sort(Comparator.comparingInt(Checks::number).thenComparing(Method::getName));
        for (Method method : found) {
            run(method);
        }
        System.out.println(tests.getName() + ": " + found.size() + " tests, " + looked + " answers looked at, " + wrong
            + " not as due");
        if (wrong != 0 || found.isEmpty()) {
            System.exit(1);
        }
    }

    private static void run(Method method) {
        test = method.getName();
        try {
            method.invoke(null);
        } catch (InvocationTargetException e) {
            wrong++;
            System.out.println(test + " threw " + e.getCause());
        } catch (IllegalAccessException e) {
            wrong++;
            System.out.println(test + " can not be run: " + e);
        }
    }

    private static int number(Method method) {
        String digits = method.getName().replaceAll("^promise([0-9]+).*$", "$1");
        return digits.matches("[0-9]+") ? Integer.parseInt(digits) : 0;
    }
}
