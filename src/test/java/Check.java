import java.lang.reflect.Method;
import java.lang.reflect.Modifier;
import java.util.Arrays;
import java.util.Comparator;

/** What the tests share: answers are compared, and wrong ones are printed and counted. */
final class Check {
    static final int NONE = -1, UNKNOWN = -1000000001, OUTSIDE = -1000000002, NOT = -1000000003, FULL = -1000000004;

    /** Five troubles, two pots, two eaters: most tests begin with it. */
    static final String FIVE = "f5 2;t0 20,3,3,0,0,0;t1 9,31,0,0,0,0;t2 40,7,5,7,0,16;t3 12,0,0,0,0,0;t0 1,0,0,4,0,0;e6;e9;";

    private static int wrong;
    private static int asked;
    private static String test = "";

    private Check() {
    }

    static void due(String call, int got, int want) {
        asked++;
        if (got != want) {
            wrong++;
            System.out.println(test + call + " answered " + got + ", due is " + want);
        }
    }

    static void holds(String what, boolean is) {
        asked++;
        if (!is) {
            wrong++;
            System.out.println(test + "does not hold: " + what);
        }
    }

    static void feedAll(SuetTroubles x, String text) {
        for (int k = 0; k < text.length(); k++) {
            x.feed(text.charAt(k));
        }
    }

    static int read(SuetTroubles x, String text) {
        feedAll(x, text);
        return x.kitchen();
    }

    /** A new object with the kitchen of that text, which must have no fault. */
    static SuetTroubles of(String text) {
        SuetTroubles x = new SuetTroubles();
        int answer = read(x, text);
        holds("no fault in " + text, answer >= 0 && x.fault() == NONE);
        return x;
    }

    /** Runs every static method without parameters of that class but main, so that none can be forgotten. */
    static void all(Class<?> tests) throws ReflectiveOperationException {
        Method[] methods = tests.getDeclaredMethods();
        Arrays.sort(methods, Comparator.comparing(Method::getName));
        int ran = 0;
        for (Method m : methods) {
            boolean isTest = Modifier.isStatic(m.getModifiers()) && m.getParameterCount() == 0 && m.getReturnType() == void.class;
            if (isTest && !m.isSynthetic()) {
                m.setAccessible(true);
                test = m.getName() + ": ";
                m.invoke(null);
                ran++;
            }
        }
        test = "";
        holds("tests were found in " + tests.getName(), ran > 0);
        end();
    }

    static void end() {
        System.out.println(wrong == 0 ? asked + " answers are as due" : wrong + " of " + asked + " answers are not as due");
        if (wrong != 0) {
            System.exit(1);
        }
    }
}
