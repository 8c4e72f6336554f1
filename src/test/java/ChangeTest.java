import java.util.ArrayList;
import java.util.List;

/** Promises 25 to 33: changes, undoing them, and saved states. */
public final class ChangeTest {
    /** a asks in 0, is granted in 1, starts in 2, runs in 4; b is granted in 5, runs in 7. */
    private static final String PAIR = "fuse 100;outlet a 30 60 50 2 5;outlet b 20 40 35 1 5;need b a;";

    public static void main(String[] args) {
        run();
        runToTheEnd();
        blackout();
        want();
        wantThatChangesNothing();
        setFuse();
        setPriority();
        forget();
        undo();
        undoOfEachChange();
        undoOfATrip();
        undoOfAPresentOrder();
        atMostEight();
        save();
        restore();
        stateHasEverything();
        Check.end("ChangeTest");
    }

    private static void run() {
        BlackoutStart x = Texts.loaded(PAIR);
        int[] running = {0, 0, 0, 0, 1, 1, 1, 2, 2};
        for (int k = 0; k < running.length; k++) {
            Check.same("run in " + k, running[k], x.run(1));
            Check.same("tick", k + 1, x.count(2));
        }
        BlackoutStart y = Texts.loaded(PAIR);
        Check.same("at once", 2, y.run(9));
        List<Object> one = Check.picture(x);
        List<Object> all = Check.picture(y);
        one.remove(15);
        all.remove(15);
        Check.samePicture("the same but the changes", all, one);
        Check.argument("run(0)", x, () -> x.run(0));
        Check.argument("run(-1)", x, () -> x.run(-1));
        Check.argument("run(201)", x, () -> x.run(201));
        Check.argument("run(greatest)", x, () -> x.run(Integer.MAX_VALUE));
        Check.same("run(200)", 2, x.run(200));
        Check.same("tick 209", 209, x.count(2));
    }

    private static void runToTheEnd() {
        BlackoutStart x = Texts.loaded(PAIR);
        for (int k = 0; k < 24; k++) {
            x.run(200);
        }
        x.run(199);
        Check.state("beyond 5000", x, () -> x.run(2));
        Check.state("beyond 5000 by far", x, () -> x.run(200));
        Check.argument("out of range is named first", x, () -> x.run(201));
        Check.same("the last tick", 2, x.run(1));
        Check.same("5000", 5000, x.count(2));
        Check.state("no more", x, () -> x.run(1));
        Check.argument("run(0) at the end", x, () -> x.run(0));
        Check.same("blackout at the end", 5050, x.blackout(50));
        x.undo();
        x.undo();
        Check.same("4999", 4999, x.count(2));
        Check.same("again", 2, x.run(1));
    }

    private static void blackout() {
        BlackoutStart x = Texts.loaded(PAIR);
        x.run(9);
        Check.same("until 11", 11, x.blackout(2));
        Check.same("in this tick", 9, x.count(2));
        Check.same("dark", 0, x.count(3));
        Check.same("it counts", 1, x.count(4));
        Check.same("no trip", 0, x.count(5));
        Check.same("all wait", 3, x.outletsWith(1, false));
        Check.same("all unknown", 3, x.outletsWith(0, true));
        Check.same("times", 9, x.known(1, 1));
        Check.same("shorter one", 11, x.blackout(1));
        Check.same("longer one", 59, x.blackout(50));
        Check.same("each counts", 3, x.count(4));
        x.run(1);
        Check.same("until 60 now", 60, x.blackout(50));
        Check.same("times of the latest", 10, x.known(0, 1));
        x.run(49);
        Check.same("dark in 59", 0, x.count(3));
        x.run(1);
        Check.same("power in 60", 1, x.count(3));
        Check.argument("blackout(0)", x, () -> x.blackout(0));
        Check.argument("blackout(51)", x, () -> x.blackout(51));
        Check.argument("blackout(least)", x, () -> x.blackout(Integer.MIN_VALUE));
    }

    private static void want() {
        BlackoutStart x = Texts.loaded(PAIR + "off b;");
        Check.same("b did not", false, x.want(1, true));
        Check.same("b waits", 1, x.outlet(1, 6));
        Check.same("b does", true, x.want(1, true));
        Check.same("b does until now", true, x.want(1, false));
        Check.same("b is idle", 0, x.outlet(1, 6));
        Check.same("b wants no more", 0, x.outlet(1, 5));
        Check.same("b does not", false, x.want(1, false));
        x.run(1);
        Check.same("it waited, so nothing is told", 1, x.count(7));
        x.run(2);
        Check.same("a is starting", 2, x.outlet(0, 6));
        x.want(0, false);
        Check.same("idle at once", 0, x.outlet(0, 6));
        Check.same("no ticks left", 0, x.outlet(0, 7));
        Check.same("no load", 0, x.load(0));
        Check.same("not told yet", 0, x.count(6));
        Check.same("the panel reserves still", 60, x.load(2));
        x.run(1);
        Check.same("GONE", 2, x.message(0, 0));
        x.run(1);
        Check.same("the panel knows", 0, x.known(0, 0));
        Check.same("told once", 1, x.traffic(2, false));
        x.want(0, true);
        x.run(5);
        Check.same("running again", 3, x.outlet(0, 6));
        x.want(0, false);
        x.want(0, true);
        Check.same("waiting at once", 1, x.outlet(0, 6));
        x.run(1);
        // RUNS was sent in 9; in 10 it sends GONE and asks
        Check.same("GONE of one that waits again", 2, x.message(0, 0));
        Check.same("and ASK", 0, x.message(1, 0));
        Check.same("in this order", 2, x.count(6));
        x.blackout(1);
        Check.same("in the dark", true, x.want(0, false));
        Check.same("idle in the dark", 0, x.outlet(0, 6));
        x.run(5);
        Check.same("it stays idle", 0, x.outlet(0, 6));
        Check.same("no GONE for it", 2, x.traffic(2, false));
        Check.index("want(-1)", x, () -> x.want(-1, true));
        Check.index("want(2)", x, () -> x.want(2, false));
    }

    private static void wantThatChangesNothing() {
        BlackoutStart x = Texts.loaded(PAIR);
        x.run(3);
        x.want(0, true);
        Check.same("starting goes on", 2, x.outlet(0, 6));
        Check.same("with its ticks", 1, x.outlet(0, 7));
        Check.same("it can be undone", 2, x.count(13));
        Check.same("undone", 1, x.undo());
        Check.same("tick 3", 3, x.count(2));
        Check.same("undone, too", 0, x.undo());
        Check.same("tick 0", 0, x.count(2));
    }

    private static void setFuse() {
        BlackoutStart x = Texts.loaded(PAIR);
        Check.same("100 before", 100, x.setFuse(59));
        Check.same("59 now", 59, x.count(9));
        Check.same("a has no right", 0, x.rights());
        Check.same("59 before", 59, x.setFuse(9999));
        Check.same("9999 before", 9999, x.setFuse(1));
        Check.same("1 before", 1, x.setFuse(1));
        Check.same("four changes", 4, x.count(13));
        x.run(9);
        Check.same("none starts", 0, x.load(1));
        Check.argument("setFuse(0)", x, () -> x.setFuse(0));
        Check.argument("setFuse(10000)", x, () -> x.setFuse(10000));
        Check.argument("setFuse(-5)", x, () -> x.setFuse(-5));
        x.setFuse(60);
        x.run(9);
        x.setFuse(29);
        x.run(1);
        Check.same("30 trip 29", 1, x.count(5));
        Texts.load(x, PAIR);
        Check.same("loading brings the text's FUSE", 100, x.count(9));
    }

    private static void setPriority() {
        BlackoutStart x = Texts.loaded("fuse 100;outlet a 30 60 50 2 5;outlet b 20 60 35 1 5;");
        Check.same("5 before", 5, x.setPriority(1, 9));
        Check.same("9 now", 9, x.outlet(1, 4));
        Check.same("a stays", 5, x.outlet(0, 4));
        x.run(2);
        Check.same("b is granted first", 2, x.outletsWith(2, true));
        x.blackout(1);
        Check.same("9 before, also behind a blackout", 9, x.setPriority(1, 0));
        x.run(3);
        Check.same("a is granted first", 1, x.outletsWith(2, true));
        Check.index("setPriority(-1, 5)", x, () -> x.setPriority(-1, 5));
        Check.index("setPriority(2, 10)", x, () -> x.setPriority(2, 10));
        Check.argument("setPriority(0, -1)", x, () -> x.setPriority(0, -1));
        Check.argument("setPriority(0, 10)", x, () -> x.setPriority(0, 10));
    }

    private static void forget() {
        BlackoutStart x = Texts.loaded(PAIR);
        Check.same("nothing yet", 0, x.forget());
        Check.same("a change all the same", 1, x.count(13));
        x.run(6);
        Check.same("one PEAK", 1, x.forget());
        Check.same("none", 0, x.forget());
        Check.same("60 is expected", 60, x.known(0, 2));
        Check.same("STEADY is reserved for a running one", 30, x.known(0, 3));
        x.undo();
        x.undo();
        Check.same("50 is expected", 50, x.known(0, 2));
        x.run(3);
        Check.same("order", 1, x.known(1, 4));
        x.blackout(1);
        x.run(3);
        Check.same("granted by PEAK", 50, x.load(2));
        Check.same("both PEAKs", 2, x.forget());
        Check.same("INRUSH is reserved then", 60, x.load(2));
        Check.same("no order", -1, x.known(1, 4));
        Check.index("no place", x, () -> x.learned(0));
        Check.same("the marks stay", 1, x.outletsWith(2, true));
    }

    private static void undo() {
        BlackoutStart x = Texts.loaded(PAIR);
        Check.state("nothing to undo", x, () -> x.undo());
        x.run(5);
        x.setFuse(70);
        Check.same("one is left", 1, x.undo());
        Check.same("FUSE", 100, x.count(9));
        Check.same("tick 5", 5, x.count(2));
        Check.same("none is left", 0, x.undo());
        Check.same("tick 0", 0, x.count(2));
        Check.state("nothing more", x, () -> x.undo());
        x.run(1);
        Texts.put(x, "a");
        x.undo();
        Check.same("the buffer stays", 0, x.find());
        x.run(1);
        x.save(0);
        x.undo();
        x.restore(0);
        Check.same("the slot stays", 1, x.count(2));
    }

    private static void undoOfEachChange() {
        BlackoutStart x = Texts.loaded(PAIR + "loss 00010;patience 2;dark 20 5;");
        x.run(6);
        List<List<Object>> pictures = new ArrayList<>();
        Runnable[] changes = {() -> x.blackout(3), () -> x.run(5), () -> x.want(0, false), () -> x.setFuse(77),
            () -> x.setPriority(1, 2), () -> x.forget(), () -> x.run(30)};
        for (Runnable change : changes) {
            pictures.add(Check.picture(x));
            change.run();
        }
        for (int k = changes.length - 1; k >= 0; k--) {
            Check.same("changes left", k + 1, x.undo());
            Check.samePicture("undone " + k, pictures.get(k), Check.picture(x));
        }
    }

    private static void undoOfATrip() {
        BlackoutStart x = Texts.loaded(PAIR);
        x.run(9);
        x.setFuse(40);
        x.run(1);
        Check.same("tripped", 1, x.count(5));
        List<Object> tripped = Check.picture(x);
        x.undo();
        Check.same("not tripped", 0, x.count(5));
        Check.same("running", 3, x.outletsWith(3, false));
        x.run(1);
        Check.samePicture("tripped again", tripped, Check.picture(x));
    }

    /** Behind undoing a blackout, those that ran before it are in the present order still. */
    private static void undoOfAPresentOrder() {
        BlackoutStart x = Texts.loaded(PAIR);
        x.run(7);
        x.blackout(1);
        x.undo();
        x.run(3);
        Check.same("a", 0, x.learned(0));
        Check.same("b", 1, x.learned(1));
    }

    private static void atMostEight() {
        BlackoutStart x = Texts.loaded("fuse 100;");
        for (int k = 1; k <= 21; k++) {
            x.setFuse(k);
        }
        for (int k = 7; k >= 0; k--) {
            Check.same("left", k, x.undo());
            Check.same("FUSE", 13 + k, x.count(9));
        }
        Check.state("the ninth is kept no more", x, () -> x.undo());
        Check.same("13 stays", 13, x.count(9));
        for (int k = 1; k <= 3; k++) {
            x.setFuse(50 + k);
        }
        Check.same("two", 2, x.undo());
        Check.same("52", 52, x.count(9));
        x.setFuse(99);
        Check.same("52 again", 2, x.undo());
        Check.same("52 still", 52, x.count(9));
    }

    private static void save() {
        BlackoutStart x = Texts.loaded(PAIR);
        x.run(3);
        List<Object> before = Check.picture(x);
        x.save(1);
        Check.samePicture("save is no change", before, Check.picture(x));
        Check.none("the other slot is empty", x, () -> { x.restore(0); return 0; });
        x.run(3);
        x.save(0);
        x.run(3);
        x.restore(1);
        Check.same("slot 1", 3, x.count(2));
        x.restore(0);
        Check.same("slot 0", 6, x.count(2));
        x.save(1);
        x.run(1);
        x.restore(1);
        Check.same("in place of what was there", 6, x.count(2));
        Check.index("save(-1)", x, () -> { x.save(-1); return 0; });
        Check.index("save(2)", x, () -> { x.save(2); return 0; });
    }

    private static void restore() {
        BlackoutStart x = Texts.loaded(PAIR);
        Check.none("empty slot 0", x, () -> { x.restore(0); return 0; });
        Check.none("empty slot 1", x, () -> { x.restore(1); return 0; });
        Check.index("restore(-1)", x, () -> { x.restore(-1); return 0; });
        Check.index("restore(2)", x, () -> { x.restore(2); return 0; });
        x.run(4);
        x.save(0);
        x.run(4);
        Texts.put(x, "b");
        x.restore(0);
        Check.same("the buffer stays", 1, x.find());
        Check.same("no change can be undone", 0, x.count(13));
        Check.state("undo", x, () -> x.undo());
        x.run(4);
        Check.same("its change can", 0, x.undo());
        x.run(4);
        x.restore(0);
        Check.same("it stays saved", 4, x.count(2));
        Texts.put(x, "fuse");
        Check.same("wrong text", "throws IllegalArgumentException", Check.answer(() -> x.load()));
        x.restore(0);
        Check.same("the error stays", 4, x.errorPosition());
        Texts.load(x, PAIR);
        Check.none("empty behind loading", x, () -> { x.restore(0); return 0; });
    }

    /** A state goes on from a slot just as it went on before. */
    private static void stateHasEverything() {
        String text = PAIR + "loss 000100100;patience 2;retry 2;dark 30 5;";
        for (int ticks = 1; ticks < 45; ticks++) {
            int run = ticks;
            BlackoutStart x = Texts.loaded(text);
            x.run(run);
            x.want(0, false);
            x.want(0, run % 2 == 0);
            x.setPriority(1, 8);
            x.save(1);
            List<Object> saved = Check.picture(x);
            x.run(40);
            List<Object> later = Check.picture(x);
            x.forget();
            x.blackout(50);
            x.run(60);
            x.setFuse(9);
            x.restore(1);
            List<Object> restored = Check.picture(x);
            saved.remove(15);
            restored.remove(15);
            Check.samePicture("restored in " + run, saved, restored);
            x.run(40);
            List<Object> again = Check.picture(x);
            later.remove(15);
            again.remove(15);
            Check.samePicture("goes on the same from " + run, later, again);
        }
    }
}
