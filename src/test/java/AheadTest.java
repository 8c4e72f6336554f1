import java.util.List;

/** Promises 21 to 24: what will be, asked on copies. */
public final class AheadTest {
    /** a asks in 0, is granted in 1, starts in 2, runs in 4; b is granted in 5, runs in 7. */
    private static final String PAIR = "fuse 100;outlet a 30 60 50 2 5;outlet b 20 40 35 1 5;need b a;";

    public static void main(String[] args) {
        runsIn();
        runsInTheFarthest();
        runsNeverAtTheEnd();
        allIn();
        allInOtherwise();
        peakIn();
        sentIn();
        beyondTheEnd();
        nothingChanges();
        Check.end("AheadTest");
    }

    private static void runsIn() {
        BlackoutStart x = Texts.loaded(PAIR);
        int[] a = {5, 4, 3, 2, 1, 0, 0, 0, 0};
        int[] b = {8, 7, 6, 5, 4, 3, 2, 1, 0};
        for (int k = 0; k < a.length; k++) {
            Check.same("runsIn(0) in " + k, a[k], x.runsIn(0));
            Check.same("runsIn(1) in " + k, b[k], x.runsIn(1));
            x.run(1);
        }
        x.want(0, false);
        Check.none("an idle one", x, () -> x.runsIn(0));
        Check.same("b goes on", 0, x.runsIn(1));
        x.blackout(1);
        Check.none("b needs a", x, () -> x.runsIn(1));
        Check.index("runsIn(-1)", x, () -> x.runsIn(-1));
        Check.index("runsIn(2)", x, () -> x.runsIn(2));
    }

    /** ASKs in 0, 20, .. are lost; the one with the number 22 is heard in 441, and a runs in 462. */
    private static void runsInTheFarthest() {
        BlackoutStart x = Texts.loaded("fuse 100;outlet a 1 1 1 20 0;retry 20;loss 111111111111111111111100;");
        Check.same("late", 463, x.runsIn(0));
        x.blackout(37);
        Check.same("just in 500", 500, x.runsIn(0));
        Check.same("all just in 500", 500, x.allIn(0));
        x.undo();
        x.blackout(38);
        Check.none("a tick too late", x, () -> x.runsIn(0));
        Check.none("all a tick too late", x, () -> x.allIn(0));
        x.run(1);
        Check.same("a tick later", 500, x.runsIn(0));
        Check.same("all a tick later", 500, x.allIn(3));
    }

    /** What runs in a tick whose load trips the fuse is waiting behind it. */
    private static void runsNeverAtTheEnd() {
        BlackoutStart x = Texts.loaded("fuse 100;outlet a 90 90 90 1 0;outlet b 0 0 0 1 0;");
        x.run(1);
        x.setFuse(50);
        Check.none("a never fits", x, () -> x.runsIn(0));
        x.undo();
        x.run(1);
        // granted in 1, it starts in 2 and trips a fuse of 50
        x.setFuse(50);
        Check.none("a trips", x, () -> x.runsIn(0));
        Check.same("b runs behind the trip: 1 + 5 + 4", 10, x.runsIn(1));
    }

    private static void allIn() {
        BlackoutStart x = Texts.loaded(PAIR);
        int[] due = {8, 7, 6, 5, 4, 3, 2, 1, 0};
        for (int answer : due) {
            Check.same("allIn(0) in " + x.count(2), answer, x.allIn(0));
            x.run(1);
        }
        x.want(1, false);
        Check.same("a alone", 0, x.allIn(0));
        x.want(0, false);
        Check.same("no rights", 0, x.allIn(0));
        x.want(1, true);
        Check.same("b without a has no right", 0, x.allIn(1));
        Check.argument("allIn(-1)", x, () -> x.allIn(-1));
        Check.argument("allIn(4)", x, () -> x.allIn(4));
        BlackoutStart never = Texts.loaded("fuse 100;outlet a 60 60 60 1 0;outlet b 60 60 60 1 0;");
        for (int how = 0; how < 4; how++) {
            int asked = how;
            Check.none("both never fit " + how, never, () -> never.allIn(asked));
        }
        never.setFuse(120);
        Check.same("both fit", 4, never.allIn(0));
    }

    private static void allInOtherwise() {
        BlackoutStart lossy = Texts.loaded("fuse 100;outlet a 30 60 50 1 5;loss 10;");
        // ASKs in 0 (lost) and 3; the GRANT of 4 is lost (number 2), the POLL of 8 is heard, its STATE lost (4) ..
        Check.same("no message is lost", 4, lossy.allIn(1));
        lossy.run(2);
        Check.same("already lost ones stay so", 5, lossy.allIn(1));

        // c is granted in 1; a does not fit beside it, b does, and keeps its INRUSH until it runs in 22
        String three = "fuse 100;outlet a 10 80 80 1 5;outlet b 10 30 30 20 0;outlet c 10 30 30 1 9;";
        BlackoutStart loose = Texts.loaded(three);
        Check.same("not strict", 26, loose.allIn(0));
        Check.same("strict if it is not", 29, loose.allIn(2));
        BlackoutStart strict = Texts.loaded(three + "strict;");
        Check.same("strict", 29, strict.allIn(0));
        Check.same("not strict if it is", 26, strict.allIn(2));
        Check.same("it stays strict", 1, strict.count(12));

        // with the learned PEAK both start at once, with INRUSH one behind the other
        BlackoutStart w = Texts.loaded("fuse 100;outlet a 10 60 50 1 5;outlet b 10 60 50 1 5;");
        Check.same("at first one by one", 7, w.allIn(0));
        w.run(9);
        w.blackout(1);
        Check.same("learned: 1 dark, 4 together", 5, w.allIn(0));
        Check.same("nothing was learned", 8, w.allIn(3));
        Check.same("it was all the same", 1, w.known(0, 5));
        Check.same("in order", 0, w.learned(0));
    }

    private static void peakIn() {
        BlackoutStart x = Texts.loaded(PAIR);
        int[] due = {0, 0, 50, 50, 50, 50, 65, 65};
        for (int ticks = 1; ticks <= due.length; ticks++) {
            Check.same("peakIn " + ticks, due[ticks - 1], x.peakIn(ticks, 100));
        }
        Check.same("with FUSE 59 none starts", 0, x.peakIn(100, 59));
        Check.same("with FUSE 69 b does not start beside a: 30 + 40", 50, x.peakIn(500, 69));
        Check.same("with FUSE 70 it does", 65, x.peakIn(500, 70));
        Check.same("with FUSE 1", 0, x.peakIn(1, 1));
        Check.same("with FUSE 9999", 65, x.peakIn(500, 9999));
        x.run(9);
        Check.same("not the load so far", 50, x.peakIn(1, 100));
        Check.same("a load that trips counts", 50, x.peakIn(1, 49));
        Check.same("then dark", 50, x.peakIn(5, 49));
        x.blackout(3);
        Check.same("none in the dark", 0, x.peakIn(3, 9999));
        Check.same("load so far stays", 65, x.load(1));
        Check.same("FUSE stays", 100, x.count(9));
        Check.same("trips stay", 0, x.count(5));
        Check.argument("peakIn(0, 5)", x, () -> x.peakIn(0, 5));
        Check.argument("peakIn(501, 5)", x, () -> x.peakIn(501, 5));
        Check.argument("peakIn(5, 0)", x, () -> x.peakIn(5, 0));
        Check.argument("peakIn(5, 10000)", x, () -> x.peakIn(5, 10000));
    }

    private static void sentIn() {
        BlackoutStart x = Texts.loaded("fuse 100;outlet a 30 60 50 2 5;outlet b 20 40 35 1 5;need b a;loss 0;");
        int[] due = {2, 3, 3, 4, 5, 6, 6, 7, 7, 7};
        for (int ticks = 1; ticks <= due.length; ticks++) {
            Check.same("sentIn " + ticks, due[ticks - 1], x.sentIn(ticks, 3));
        }
        // 2 ASKs in 0, 2 and a GRANT in 1, ASKs of b in 2 to 5, RUNS in 4 and a GRANT in 5
        Check.same("ASK in each tick", 11, x.sentIn(6, 1));
        x.run(9);
        Check.same("only later ones", 0, x.sentIn(1, 3));
        // PATIENCE 4: a was told of in 5, b in 8: POLLs in 25 and 28, STATEs a tick later
        Check.same("until 25", 0, x.sentIn(16, 3));
        Check.same("POLL in 25", 1, x.sentIn(17, 3));
        Check.same("STATE in 26", 2, x.sentIn(18, 3));
        Check.same("RETRY stays", 3, x.count(10));
        BlackoutStart y = Texts.loaded("fuse 100;outlet a 1 1 1 1 1;loss 1;retry 20;");
        Check.same("lost ones included", 25, y.sentIn(500, 20));
        Check.same("each tick one", 500, y.sentIn(500, 1));
        Check.argument("sentIn(0, 3)", y, () -> y.sentIn(0, 3));
        Check.argument("sentIn(501, 3)", y, () -> y.sentIn(501, 3));
        Check.argument("sentIn(3, 0)", y, () -> y.sentIn(3, 0));
        Check.argument("sentIn(3, 21)", y, () -> y.sentIn(3, 21));
    }

    private static void beyondTheEnd() {
        BlackoutStart x = Texts.loaded(PAIR + "off a;off b;");
        for (int k = 0; k < 25; k++) {
            x.run(200);
        }
        x.want(0, true);
        x.want(1, true);
        Check.state("no tick more", x, () -> x.run(1));
        Check.same("runsIn beyond", 8, x.runsIn(1));
        Check.same("allIn beyond", 8, x.allIn(0));
        Check.same("peakIn beyond", 65, x.peakIn(500, 100));
        Check.same("sentIn beyond", 7, x.sentIn(10, 3));
        Check.same("the tick stays", 5000, x.count(2));
    }

    private static void nothingChanges() {
        BlackoutStart x = Texts.loaded(PAIR + "loss 010;dark 30 4;");
        x.run(7);
        x.save(0);
        Texts.put(x, "a");
        List<Object> before = Check.picture(x);
        x.runsIn(1);
        for (int how = 0; how < 4; how++) {
            x.allIn(how);
        }
        x.peakIn(500, 10);
        x.sentIn(500, 1);
        Check.answer(() -> x.runsIn(0));
        Check.samePicture("as before", before, Check.picture(x));
        Check.same("changes that can be undone", 1, x.count(13));
        Check.same("buffer", 0, x.find());
        BlackoutStart y = Texts.loaded(PAIR + "loss 010;dark 30 4;");
        y.run(7);
        x.run(100);
        y.run(100);
        Check.samePicture("goes on the same", Check.picture(y), Check.picture(x));
        x.restore(0);
        x.save(1);
        x.allIn(0);
        x.restore(1);
        Check.same("slots", 7, x.count(2));
    }
}
