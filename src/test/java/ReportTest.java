/** Promises 8 to 20: what there is. */
public final class ReportTest {
    /** b needs a; a asks in 0, is granted in 1, starts in 2, runs in 4; b is granted in 5, runs in 7. */
    private static final String PAIR = "fuse 100;outlet a 30 60 50 2 5;outlet b 20 40 35 1 5;need b a;";

    public static void main(String[] args) {
        count();
        countOfDarkness();
        outlet();
        known();
        needs();
        outletsWith();
        rights();
        load();
        strain();
        message();
        traffic();
        learned();
        grants();
        grantsByTheQueue();
        why();
        Check.end("ReportTest");
    }

    private static void counts(String name, BlackoutStart x, int... due) {
        for (int what = 0; what < due.length; what++) {
            Check.same(name + " count " + what, due[what], x.count(what));
        }
    }

    private static void count() {
        BlackoutStart x = Texts.loaded(PAIR + "loss 0001;retry 2;patience 7;strict;");
        counts("loaded", x, 2, 1, 0, 1, 0, 0, 0, 0, 0, 100, 2, 7, 1, 0);
        x.run(1);
        counts("asked", x, 2, 1, 1, 1, 0, 0, 2, 2, 0, 100, 2, 7, 1, 1);
        x.run(2);
        // the fourth message is b's second ASK, in tick 2; the third is the GRANT
        counts("granted", x, 2, 1, 3, 1, 0, 0, 0, 4, 1, 100, 2, 7, 1, 2);
        x.setFuse(49);
        x.run(1);
        counts("tripped", x, 2, 1, 4, 0, 1, 1, 0, 4, 1, 49, 2, 7, 1, 4);
        x.blackout(1);
        counts("dark twice", x, 2, 1, 4, 0, 2, 1, 0, 4, 1, 49, 2, 7, 1, 5);
        for (int k = 0; k < 9; k++) {
            x.want(0, true);
            Check.same("at most 8 changes", Math.min(8, 6 + k), x.count(13));
        }
        Check.argument("count(-1)", x, () -> x.count(-1));
        Check.argument("count(14)", x, () -> x.count(14));
        Check.argument("count(least)", x, () -> x.count(Integer.MIN_VALUE));
    }

    private static void countOfDarkness() {
        BlackoutStart x = Texts.loaded("fuse 100;dark 2 3;dark 2 1;");
        x.run(2);
        Check.same("dark statement does not count yet", 1, x.count(3));
        Check.same("no blackout yet", 0, x.count(4));
        x.run(1);
        Check.same("dark", 0, x.count(3));
        Check.same("two blackouts began", 2, x.count(4));
        x.run(1);
        Check.same("dark in 4", 0, x.count(3));
        x.run(1);
        Check.same("power in 5", 1, x.count(3));
        Check.same("tick", 5, x.count(2));
    }

    private static void outlets(String name, BlackoutStart x, int outlet, int... due) {
        for (int what = 0; what < due.length; what++) {
            Check.same(name + " outlet " + outlet + " " + what, due[what], x.outlet(outlet, what));
        }
    }

    private static void outlet() {
        BlackoutStart x = Texts.loaded(PAIR + "off b;");
        outlets("loaded", x, 0, 30, 60, 50, 2, 5, 1, 1, 0, 0, -1);
        outlets("loaded", x, 1, 20, 40, 35, 1, 5, 0, 0, 0, 0, -1);
        x.run(3);
        outlets("starting", x, 0, 30, 60, 50, 2, 5, 1, 2, 1, 1, -1);
        x.run(1);
        outlets("no ticks left", x, 0, 30, 60, 50, 2, 5, 1, 2, 0, 1, -1);
        x.run(1);
        outlets("running", x, 0, 30, 60, 50, 2, 5, 1, 3, 0, 1, 4);
        x.setPriority(0, 0);
        x.want(1, true);
        outlets("more", x, 0, 30, 60, 50, 2, 0, 1, 3, 0, 1, 4);
        outlets("waiting", x, 1, 20, 40, 35, 1, 5, 1, 1, 0, 0, -1);
        x.blackout(1);
        outlets("thrown back", x, 0, 30, 60, 50, 2, 0, 1, 1, 0, 1, 4);
        x.run(6);
        outlets("again", x, 0, 30, 60, 50, 2, 0, 1, 3, 0, 2, 10);
        x.want(0, false);
        outlets("idle", x, 0, 30, 60, 50, 2, 0, 0, 0, 0, 2, 10);
        Check.index("outlet(-1, 0)", x, () -> x.outlet(-1, 0));
        Check.index("outlet(2, 0)", x, () -> x.outlet(2, 0));
        Check.index("outlet(2, 10)", x, () -> x.outlet(2, 10));
        Check.argument("outlet(1, -1)", x, () -> x.outlet(1, -1));
        Check.argument("outlet(1, 10)", x, () -> x.outlet(1, 10));
    }

    private static void knows(String name, BlackoutStart x, int outlet, int... due) {
        for (int what = 0; what < due.length; what++) {
            Check.same(name + " known " + outlet + " " + what, due[what], x.known(outlet, what));
        }
    }

    private static void known() {
        BlackoutStart x = Texts.loaded(PAIR);
        knows("loaded", x, 0, 0, 0, 60, 0, -1, 0);
        x.run(2);
        knows("granted", x, 0, 2, 1, 60, 60, -1, 0);
        knows("asked", x, 1, 1, 1, 40, 0, -1, 0);
        x.run(3);
        knows("not told yet", x, 0, 2, 1, 60, 60, -1, 0);
        x.run(1);
        knows("runs", x, 0, 3, 5, 50, 30, -1, 1);
        x.run(3);
        knows("ordered", x, 0, 3, 5, 50, 30, 0, 1);
        knows("ordered", x, 1, 3, 8, 35, 20, 1, 1);
        x.blackout(2);
        knows("dark", x, 0, 0, 9, 50, 0, 0, 1);
        knows("dark", x, 1, 0, 9, 35, 0, 1, 1);
        x.run(4);
        knows("granted by what was learned", x, 0, 2, 12, 50, 50, 0, 1);
        x.forget();
        knows("forgotten", x, 0, 2, 12, 60, 60, -1, 0);
        Check.index("known(-1, 0)", x, () -> x.known(-1, 0));
        Check.index("known(2, 6)", x, () -> x.known(2, 6));
        Check.argument("known(0, -1)", x, () -> x.known(0, -1));
        Check.argument("known(0, 6)", x, () -> x.known(0, 6));
    }

    private static void needs() {
        BlackoutStart x = Texts.loaded("fuse 1;outlet a 0 0 0 1 0;outlet b 0 0 0 1 0;outlet c 0 0 0 1 0;"
                + "need c a;need c b;need a b;need b a;");
        int[] needed = {2, 1, 3};
        int[] back = {6, 5, 0};
        for (int k = 0; k < 3; k++) {
            Check.same("needs " + k, needed[k], x.needs(k, false));
            Check.same("needed back " + k, back[k], x.needs(k, true));
        }
        Check.index("needs(-1)", x, () -> x.needs(-1, false));
        Check.index("needs(3)", x, () -> x.needs(3, true));
    }

    private static void sets(String name, BlackoutStart x, int... due) {
        for (int value = 0; value < 4; value++) {
            Check.same(name + " state " + value, due[value], x.outletsWith(value, false));
            Check.same(name + " mark " + value, due[value + 4], x.outletsWith(value, true));
        }
    }

    private static void outletsWith() {
        BlackoutStart x = Texts.loaded(PAIR + "off b;");
        sets("loaded", x, 2, 1, 0, 0, 3, 0, 0, 0);
        x.want(1, true);
        x.run(2);
        sets("granted", x, 0, 3, 0, 0, 0, 2, 1, 0);
        x.run(1);
        sets("starting", x, 0, 2, 1, 0, 0, 2, 1, 0);
        x.run(3);
        sets("running", x, 0, 2, 0, 1, 0, 0, 2, 1);
        Check.argument("outletsWith(-1)", x, () -> x.outletsWith(-1, false));
        Check.argument("outletsWith(4)", x, () -> x.outletsWith(4, true));
    }

    private static void rights() {
        BlackoutStart x = Texts.loaded("fuse 60;outlet a 1 60 60 1 0;outlet b 1 61 1 1 0;outlet c 1 1 1 1 0;"
                + "outlet d 1 1 1 1 0;outlet e 1 1 1 1 0;outlet f 1 1 1 1 0;outlet g 1 1 1 1 0;"
                + "need c b;need d e;need e d;need f d;need g a;off g;");
        Check.same("a alone", 1, x.rights());
        x.want(6, true);
        Check.same("a and g", 65, x.rights());
        x.setFuse(61);
        Check.same("b and c, too", 71, x.rights());
        x.want(1, false);
        Check.same("c needs b", 65, x.rights());
        x.setFuse(59);
        Check.same("none but circles", 0, x.rights());
        BlackoutStart y = Texts.loaded("fuse 60;outlet a 1 9 9 1 0;outlet b 1 9 1 1 0;outlet c 1 1 1 1 0;"
                + "outlet d 1 1 1 1 0;need a b;need b c;need c d;");
        Check.same("a chain against the numbers", 15, y.rights());
        y.want(3, false);
        Check.same("the end of the chain fails", 0, y.rights());
        BlackoutStart z = Texts.loaded("fuse 60;outlet a 1 70 9 1 0;loss 0;");
        z.run(9);
        z.setFuse(90);
        z.run(9);
        z.setFuse(60);
        Check.same("learned PEAK gives no right", 0, z.rights());
    }

    private static void load() {
        BlackoutStart x = Texts.loaded(PAIR);
        int[][] due = {{0, 0, 0}, {0, 0, 0}, {0, 0, 60}, {50, 50, 60}, {50, 50, 60}, {30, 50, 60}, {30, 50, 70},
            {65, 65, 70}, {50, 65, 70}, {50, 65, 50}};
        for (int[] row : due) {
            for (int what = 0; what < 3; what++) {
                Check.same("load " + what + " in " + x.count(2), row[what], x.load(what));
            }
            x.run(1);
        }
        x.blackout(1);
        Check.same("load in the dark", 0, x.load(0));
        Check.same("peak stays", 65, x.load(1));
        Check.same("nothing is reserved", 0, x.load(2));
        Check.argument("load(-1)", x, () -> x.load(-1));
        Check.argument("load(3)", x, () -> x.load(3));
    }

    private static void strain() {
        BlackoutStart x = Texts.loaded(PAIR);
        Check.same("no strain", 0.0, x.strain());
        x.run(3);
        Check.same("half", 0.5, x.strain());
        x.run(5);
        Check.same("more", 0.65, x.strain());
        x.setFuse(3);
        Check.same("by the FUSE now", 65.0 / 3.0, x.strain());
        x.setFuse(1);
        Check.same("by a FUSE of 1", 65.0, x.strain());
        x.setFuse(3);
        x.blackout(5);
        Check.same("so far", 65.0 / 3.0, x.strain());
    }

    private static void messages(String name, BlackoutStart x, int... due) {
        Check.same(name + " how many", due.length / 3, x.count(6));
        for (int k = 0; k < due.length; k++) {
            Check.same(name + " message " + k / 3 + " " + k % 3, due[k], x.message(k / 3, k % 3));
        }
        int beyond = due.length / 3;
        Check.index(name + " message beyond", x, () -> x.message(beyond, 0));
        Check.index(name + " both wrong", x, () -> x.message(beyond, 3));
        Check.index(name + " message -1", x, () -> x.message(-1, 0));
    }

    private static void message() {
        BlackoutStart x = Texts.loaded(PAIR + "patience 2;retry 9;");
        messages("loaded", x);
        x.run(1);
        messages("ASK, ASK", x, 0, 0, -1, 0, 1, -1);
        Check.argument("message(0, -1)", x, () -> x.message(0, -1));
        Check.argument("message(1, 3)", x, () -> x.message(1, 3));
        x.run(1);
        messages("GRANT", x, 4, 0, -1);
        x.run(2);
        messages("POLL", x, 5, 0, -1);
        x.run(1);
        messages("RUNS, STATE", x, 1, 0, -1, 3, 0, 3);
        x.want(0, false);
        x.run(1);
        messages("GONE, GRANT", x, 2, 0, -1, 4, 1, -1);
        x.want(0, true);
        x.blackout(1);
        messages("gone", x);
        x.run(2);
        messages("again", x, 0, 0, -1, 0, 1, -1);
    }

    private static void traffic() {
        BlackoutStart x = Texts.loaded("fuse 100;outlet a 30 60 50 1 5;loss 1000010;patience 2;retry 2;");
        x.run(1);
        Check.same("ASK sent", 1, x.traffic(0, false));
        Check.same("ASK lost", 1, x.traffic(0, true));
        // 1 ASK in 2, 2 GRANT in 3, 3 RUNS in 5, 4 POLL in 5, 5 STATE in 6 is lost
        x.run(6);
        int[] sent = {2, 1, 0, 1, 1, 1};
        int[] lost = {1, 0, 0, 1, 0, 0};
        for (int kind = 0; kind < 6; kind++) {
            Check.same("sent " + kind, sent[kind], x.traffic(kind, false));
            Check.same("lost " + kind, lost[kind], x.traffic(kind, true));
        }
        x.want(0, false);
        x.run(1);
        Check.same("GONE sent", 1, x.traffic(2, false));
        x.blackout(1);
        Check.same("counts stay in blackouts", 2, x.traffic(0, false));
        Check.argument("traffic(-1)", x, () -> x.traffic(-1, false));
        Check.argument("traffic(6)", x, () -> x.traffic(6, true));
    }

    private static void learned() {
        BlackoutStart x = Texts.loaded("fuse 60;outlet a 10 50 50 1 1;outlet b 10 50 50 1 2;");
        Check.index("nothing learned", x, () -> x.learned(0));
        x.run(7);
        Check.index("one is not all", x, () -> x.learned(0));
        x.run(1);
        Check.same("b first", 1, x.learned(0));
        Check.same("a next", 0, x.learned(1));
        Check.index("learned(2)", x, () -> x.learned(2));
        Check.index("learned(-1)", x, () -> x.learned(-1));
        x.blackout(3);
        Check.same("b stays", 1, x.learned(0));
        x.setPriority(0, 2);
        x.run(30);
        Check.same("order before number", 1, x.learned(0));
        x.blackout(1);
        x.setPriority(0, 3);
        x.run(30);
        Check.same("priority before order", 0, x.learned(0));
        Check.same("b is later now", 1, x.learned(1));
        x.forget();
        Check.index("forgotten", x, () -> x.learned(0));
    }

    private static void grants() {
        // a takes the whole fuse in tick 1, and with more FUSE the others would be granted
        BlackoutStart x = Texts.loaded("fuse 100;outlet a 50 90 90 1 9;outlet b 10 40 40 1 5;outlet c 10 60 60 1 5;"
                + "outlet d 10 20 20 1 5;need d c;");
        Check.same("no marks", 0, x.grants());
        x.run(2);
        Check.same("a reserves 90", 1, x.outletsWith(2, true));
        Check.same("none fits", 0, x.grants());
        x.setFuse(130);
        Check.same("b fits, c does not then", 2, x.grants());
        x.setFuse(189);
        Check.same("c still not", 2, x.grants());
        x.setFuse(190);
        Check.same("b and c, not d", 6, x.grants());
        x.setPriority(2, 6);
        x.setFuse(150);
        Check.same("c first", 4, x.grants());
        x.setFuse(149);
        Check.same("c is passed over", 2, x.grants());
        java.util.List<Object> before = Check.picture(x);
        x.grants();
        Check.samePicture("grants changes nothing", before, Check.picture(x));
        x.blackout(1);
        Check.same("dark", 0, x.grants());
    }

    private static void grantsByTheQueue() {
        BlackoutStart x = Texts.loaded("fuse 100;outlet a 50 90 90 1 9;outlet b 10 40 40 1 5;outlet c 10 60 60 1 6;"
                + "outlet d 10 40 40 1 7;need d b;strict;");
        x.run(2);
        x.setFuse(149);
        Check.same("strict ends at c; d was passed over", 0, x.grants());
        x.setFuse(150);
        Check.same("c fits, b does not", 4, x.grants());
        x.setFuse(190);
        Check.same("both fit", 6, x.grants());
        x.setFuse(149);
        x.setPriority(1, 8);
        Check.same("b ahead of c", 2, x.grants());
    }

    private static void why() {
        BlackoutStart x = Texts.loaded("fuse 100;outlet a 30 60 50 2 5;outlet b 20 40 35 1 5;outlet c 1 101 2 1 0;"
                + "outlet d 50 90 90 1 0;outlet e 1 1 1 1 0;need b a;off e;retry 20;dark 20 1;");
        int[] loaded = {4, 4, 4, 4, 1};
        for (int k = 0; k < 5; k++) {
            Check.same("loaded why " + k, loaded[k], x.why(k));
        }
        x.run(2);
        int[] granted = {4, 5, 6, 7, 1};
        for (int k = 0; k < 5; k++) {
            Check.same("granted why " + k, granted[k], x.why(k));
        }
        x.setFuse(150);
        Check.same("d would be granted", 0, x.why(3));
        Check.same("c does not fit beside", 7, x.why(2));
        x.setFuse(101);
        Check.same("c alone is just FUSE", 7, x.why(2));
        x.setFuse(89);
        Check.same("d alone is greater", 6, x.why(3));
        x.setFuse(100);
        x.run(1);
        Check.same("starting", 2, x.why(0));
        x.run(2);
        Check.same("running", 2, x.why(0));
        x.want(0, false);
        Check.same("idle before all", 1, x.why(0));
        x.blackout(2);
        int[] dark = {1, 3, 3, 3, 1};
        for (int k = 0; k < 5; k++) {
            Check.same("dark why " + k, dark[k], x.why(k));
        }
        x.run(15);
        Check.same("a statement dark does not count yet", 4, Texts.loaded("fuse 1;outlet a 1 1 1 1 1;dark 1 5;").why(0));
        Check.index("why(-1)", x, () -> x.why(-1));
        Check.index("why(5)", x, () -> x.why(5));
    }
}
