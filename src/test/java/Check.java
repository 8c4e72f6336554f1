import java.util.ArrayList;
import java.util.List;

/** Counts what is not as it is due, and tells it. */
final class Check {
    interface Call {
        Object answer();
    }

    private static int wrong = 0;
    private static int asked = 0;
    /** Stands before what a wrong answer is told with. */
    private static String test = "";

    private Check() {
    }

    static void begin(String name) {
        test = name + ": ";
    }

    static int asked() {
        return asked;
    }

    static void same(String what, Object due, Object got) {
        asked++;
        if (!due.equals(got)) {
            wrong++;
            System.out.println(test + what + " answered " + got + ", due is " + due);
        }
    }

    /** Compares two pictures, and tells the first place in which they are different. */
    static void samePicture(String what, List<Object> due, List<Object> got) {
        for (int k = 0; k < Math.min(due.size(), got.size()); k++) {
            if (!due.get(k).equals(got.get(k))) {
                same(what + ", the answer " + k + " of the picture", due.get(k), got.get(k));
                return;
            }
        }
        same(what + ", how many answers", due.size(), got.size());
    }

    /** What the call answers, or the name of what it throws. */
    static Object answer(Call call) {
        try {
            return call.answer();
        } catch (RuntimeException e) {
            return "throws " + e.getClass().getSimpleName();
        }
    }

    /** The call throws just that, and nothing that can be asked is different behind it. */
    static void refused(String what, Class<? extends RuntimeException> due, BlackoutStart x, Call call) {
        List<Object> before = picture(x);
        same(what, "throws " + due.getSimpleName(), answer(call));
        samePicture(what + " changed", before, picture(x));
    }

    static void index(String what, BlackoutStart x, Call call) {
        refused(what, IndexOutOfBoundsException.class, x, call);
    }

    static void argument(String what, BlackoutStart x, Call call) {
        refused(what, IllegalArgumentException.class, x, call);
    }

    static void state(String what, BlackoutStart x, Call call) {
        refused(what, IllegalStateException.class, x, call);
    }

    static void none(String what, BlackoutStart x, Call call) {
        refused(what, java.util.NoSuchElementException.class, x, call);
    }

    /** All that can be asked of the present state. */
    static List<Object> picture(BlackoutStart x) {
        List<Object> seen = new ArrayList<>();
        seen.add(x.errorCode());
        seen.add(x.errorPosition());
        for (int what = 0; what < 14; what++) {
            seen.add(x.count(what));
        }
        for (int k = 0; k < x.count(0); k++) {
            for (int what = 0; what < 10; what++) {
                seen.add(x.outlet(k, what));
            }
            for (int what = 0; what < 6; what++) {
                seen.add(x.known(k, what));
            }
            seen.add(x.needs(k, false));
            seen.add(x.needs(k, true));
            seen.add(x.why(k));
        }
        for (int value = 0; value < 4; value++) {
            seen.add(x.outletsWith(value, false));
            seen.add(x.outletsWith(value, true));
        }
        seen.add(x.rights());
        seen.add(x.grants());
        for (int what = 0; what < 3; what++) {
            seen.add(x.load(what));
        }
        seen.add(x.strain());
        for (int k = 0; k < x.count(6); k++) {
            for (int what = 0; what < 3; what++) {
                seen.add(x.message(k, what));
            }
        }
        for (int kind = 0; kind < 6; kind++) {
            seen.add(x.traffic(kind, false));
            seen.add(x.traffic(kind, true));
        }
        for (int place = 0; place < 13; place++) {
            int asked = place;
            Object outlet = answer(() -> x.learned(asked));
            seen.add(outlet);
            if (!(outlet instanceof Integer)) {
                break;
            }
        }
        return seen;
    }

    /** Behind the tests of a class. */
    static void end(String name) {
        System.out.println(name + ": " + asked + " answers, " + wrong + " wrong");
        if (wrong != 0) {
            System.exit(1);
        }
    }
}
