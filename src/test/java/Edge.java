import java.lang.reflect.InvocationTargetException;
import java.lang.reflect.Method;
import java.util.Arrays;
import java.util.Comparator;
import java.util.List;

/**
 * What the tests of the document's boundary cases have in common. Each of their methods with a '_' in
 * its name is a test of its own: the promise or the section, then the case.
 */
abstract class Edge {
    static final int LEAST = Integer.MIN_VALUE;
    static final int GREATEST = Integer.MAX_VALUE;
    private static final String[] KINDS = {"ASK", "RUNS", "GONE", "STATE", "GRANT", "POLL"};

    static void runAll(Class<?> tests) {
        Method[] methods = tests.getDeclaredMethods();
        Arrays.sort(methods, Comparator.comparing(Method::getName));
        for (Method method : methods) {
            if (method.getName().indexOf('_') >= 0 && !method.isSynthetic()) {
                Check.begin(method.getName());
                int before = Check.asked();
                Check.same("the test's own exception", "none", thrownBy(method));
                Check.same("asks something", true, Check.asked() > before + 1);
            }
        }
        Check.end(tests.getSimpleName());
    }

    private static String thrownBy(Method test) {
        try {
            test.setAccessible(true);
            test.invoke(null);
            return "none";
        } catch (InvocationTargetException e) {
            return e.getCause() + " at " + Arrays.toString(e.getCause().getStackTrace());
        } catch (IllegalAccessException e) {
            return e.toString();
        }
    }

    static BlackoutStart of(String text) {
        return Texts.loaded(text);
    }

    static void same(String what, Object due, Object got) {
        Check.same(what, due, got);
    }

    static void samePicture(String what, List<Object> due, List<Object> got) {
        Check.samePicture(what, due, got);
    }

    static void throwsIndex(BlackoutStart x, Check.Call call) {
        Check.index("the call", x, call);
    }

    static void throwsArgument(BlackoutStart x, Check.Call call) {
        Check.argument("the call", x, call);
    }

    static void throwsState(BlackoutStart x, Check.Call call) {
        Check.state("the call", x, call);
    }

    static void throwsNone(BlackoutStart x, Check.Call call) {
        Check.none("the call", x, call);
    }

    /** The messages that are to be received: kind and outlet, and of STATE what it tells. */
    static String wire(BlackoutStart x) {
        StringBuilder told = new StringBuilder();
        for (int k = 0; k < x.count(6); k++) {
            told.append(k == 0 ? "" : " ").append(KINDS[x.message(k, 0)]).append(x.message(k, 1));
            if (x.message(k, 2) != BlackoutStart.NONE) {
                told.append('=').append(x.message(k, 2));
            }
        }
        return told.toString();
    }

    /** The marks, a digit each. */
    static String marks(BlackoutStart x) {
        return knownOfAll(x, 0, "");
    }

    static String times(BlackoutStart x) {
        return knownOfAll(x, 1, " ");
    }

    static String expected(BlackoutStart x) {
        return knownOfAll(x, 2, " ");
    }

    static String reserved(BlackoutStart x) {
        return knownOfAll(x, 3, " ");
    }

    private static String knownOfAll(BlackoutStart x, int what, String between) {
        StringBuilder told = new StringBuilder();
        for (int k = 0; k < x.count(0); k++) {
            told.append(k == 0 ? "" : between).append(x.known(k, what));
        }
        return told.toString();
    }

    /** The states, a digit each. */
    static String states(BlackoutStart x) {
        return ofAll(x, 6, "");
    }

    static String ofAll(BlackoutStart x, int what, String between) {
        StringBuilder told = new StringBuilder();
        for (int k = 0; k < x.count(0); k++) {
            told.append(k == 0 ? "" : between).append(x.outlet(k, what));
        }
        return told.toString();
    }

    /** The learned order. */
    static String order(BlackoutStart x) {
        StringBuilder told = new StringBuilder();
        for (int place = 0; place <= 12; place++) {
            int asked = place;
            Object outlet = Check.answer(() -> x.learned(asked));
            if (!(outlet instanceof Integer)) {
                break;
            }
            told.append(place == 0 ? "" : " ").append(outlet);
        }
        return told.toString();
    }

    /** Many ticks, some hundreds at a time. */
    static void runTo(BlackoutStart x, int tick) {
        while (x.count(2) < tick) {
            x.run(Math.min(200, tick - x.count(2)));
        }
    }

    /** All that can be asked, but the changes that can be undone. */
    static List<Object> pictureButChanges(BlackoutStart x) {
        List<Object> seen = Check.picture(x);
        seen.remove(15);
        return seen;
    }

    /** All that can be asked, but the errors of the text. */
    static List<Object> pictureButErrors(BlackoutStart x) {
        List<Object> seen = Check.picture(x);
        return seen.subList(2, seen.size());
    }

    /** An object in which much goes on: needs, losses, POLLs, trips and blackouts. */
    static BlackoutStart busy() {
        return of("fuse 120;outlet a 30 60 50 2 5;outlet b 20 40 35 1 5;outlet c 10 50 12 3 7;outlet d 5 300 9 1 2;"
                + "need b a;need c a;loss 0010000100010;retry 2;patience 2;dark 20 5;dark 22 2;dark 22 9;");
    }
}
