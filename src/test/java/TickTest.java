/** What happens in a tick: outlets, messages, the panel, the meter, learning and blackouts. */
public final class TickTest {
    public static void main(String[] args) {
        asks();
        asksAnewWhenItWaitsAnew();
        grantIsForWaitingOutlets();
        lossByTheScript();
        pollsTheGranted();
        pollsTheRunning();
        stateOfAnIdleOutlet();
        stateThatIsOlderThanAGrant();
        stateThatIsNewerThanAGrant();
        stateOfAStartingOutlet();
        stateThatTeaches();
        askOfOneThatRuns();
        orderOfActing();
        panelReserves();
        tripping();
        darkness();
        darknessOverlaps();
        learningOrder();
        queueByTheLearnedOrder();
        pollsAnsweredTogether();
        learningAgainBehindForget();
        presentOrderBeginsAnew();
        Check.end("TickTest");
    }

    private static void knows(String name, BlackoutStart x, int outlet, int mark, int time) {
        Check.same(name + " mark", mark, x.known(outlet, 0));
        Check.same(name + " time", time, x.known(outlet, 1));
    }

    private static void asks() {
        BlackoutStart x = Texts.loaded("fuse 10;outlet a 1 11 1 1 1;");
        int[] sent = {1, 1, 1, 2, 2, 2, 3};
        for (int due : sent) {
            x.run(1);
            Check.same("RETRY 3 in " + x.count(2), due, x.traffic(0, false));
        }
        knows("asked once only", x, 0, 1, 1);
        BlackoutStart y = Texts.loaded("fuse 10;outlet a 1 11 1 1 1;retry 1;");
        y.run(7);
        Check.same("RETRY 1", 7, y.traffic(0, false));
        BlackoutStart z = Texts.loaded("fuse 10;outlet a 1 11 1 1 1;off a;");
        z.run(7);
        Check.same("idle", 0, z.count(7));
    }

    private static void asksAnewWhenItWaitsAnew() {
        BlackoutStart x = Texts.loaded("fuse 10;outlet a 1 11 1 1 1;retry 20;");
        x.run(2);
        x.want(0, true);
        x.run(1);
        Check.same("it waits as before", 1, x.traffic(0, false));
        x.want(0, false);
        x.want(0, true);
        x.run(1);
        Check.same("it waits anew", 2, x.traffic(0, false));
        Check.same("no GONE of one that waited", 0, x.traffic(2, false));
        x.blackout(1);
        x.run(1);
        Check.same("not in the dark", 2, x.traffic(0, false));
        x.run(1);
        Check.same("anew behind the blackout", 3, x.traffic(0, false));
    }

    private static void grantIsForWaitingOutlets() {
        BlackoutStart x = Texts.loaded("fuse 10;outlet a 1 2 2 3 1;patience 20;");
        x.run(2);
        x.want(0, false);
        x.run(1);
        Check.same("idle stays idle", 0, x.outlet(0, 6));
        Check.same("no start", 0, x.outlet(0, 8));
        Check.same("it never ran, so it is not gone", 0, x.traffic(2, false));
        knows("the panel waits", x, 0, 2, 1);
        BlackoutStart y = Texts.loaded("fuse 10;outlet a 1 2 2 3 1;");
        y.run(3);
        Check.same("TICKS 3, one spent", 2, y.outlet(0, 7));
        y.run(2);
        Check.same("still starting", 2, y.outlet(0, 6));
        Check.same("with none left", 0, y.outlet(0, 7));
        y.run(1);
        Check.same("running", 3, y.outlet(0, 6));
        Check.same("since 5", 5, y.outlet(0, 9));
    }

    private static void lossByTheScript() {
        BlackoutStart x = Texts.loaded("fuse 10;outlet a 1 11 1 1 1;retry 1;loss 01101;");
        int[] lost = {0, 1, 2, 2, 3, 3, 4, 5, 5, 6, 6};
        for (int due : lost) {
            x.run(1);
            Check.same("lost in " + x.count(2), due, x.count(8));
        }
        BlackoutStart y = Texts.loaded("fuse 10;outlet a 1 11 1 1 1;retry 1;loss 000000000000000000000001;");
        y.run(23);
        Check.same("23 arrive", 0, y.count(8));
        y.run(1);
        Check.same("the last of 24", 1, y.count(8));
        y.run(24);
        Check.same("the last again", 2, y.count(8));
    }

    private static void pollsTheGranted() {
        // ASK 0, GRANT 1 is lost; RETRY 20 keeps the outlet silent
        BlackoutStart x = Texts.loaded("fuse 10;outlet a 1 2 2 3 1;retry 20;patience 5;loss 010000000000000000000000;");
        x.run(6);
        Check.same("PATIENCE not over", 0, x.traffic(5, false));
        x.run(1);
        Check.same("POLL in 6", 1, x.traffic(5, false));
        knows("the time is the POLL's", x, 0, 2, 6);
        x.run(1);
        Check.same("STATE", 3, x.message(0, 0));
        Check.same("waiting", 1, x.message(0, 2));
        x.run(1);
        knows("granted again", x, 0, 2, 8);
        Check.same("GRANT", 4, x.message(0, 0));
        x.run(1);
        Check.same("starts", 2, x.outlet(0, 6));
    }

    private static void pollsTheRunning() {
        BlackoutStart x = Texts.loaded("fuse 10;outlet a 1 2 2 1 1;outlet b 1 2 2 1 1;patience 3;off b;");
        x.run(5);
        knows("runs", x, 0, 3, 4);
        x.run(14);
        Check.same("5 * PATIENCE not over", 0, x.traffic(5, false));
        x.run(1);
        Check.same("POLL in 19", 1, x.traffic(5, false));
        knows("time of the POLL", x, 0, 3, 19);
        x.run(1);
        Check.same("STATE running", 3, x.message(0, 2));
        x.run(1);
        knows("time of the STATE", x, 0, 3, 21);
        x.run(14);
        Check.same("no other", 1, x.traffic(5, false));
        x.run(1);
        Check.same("POLL in 36", 2, x.traffic(5, false));
    }

    private static void stateOfAnIdleOutlet() {
        BlackoutStart x = Texts.loaded("fuse 10;outlet a 1 9 9 1 2;outlet b 1 9 9 1 1;patience 2;");
        x.run(2);
        x.want(0, false);
        x.run(2);
        Check.same("POLL in 3, behind b's ASK", 5, x.message(1, 0));
        x.run(1);
        Check.same("STATE idle", 0, x.message(0, 2));
        x.run(1);
        knows("unknown", x, 0, 0, 5);
        knows("b is granted", x, 1, 2, 5);
        // a running one that is stopped, and whose GONE is lost, is found by a POLL, too
        BlackoutStart y = Texts.loaded("fuse 10;outlet a 1 9 9 1 2;patience 3;loss 0001000000000000;");
        y.run(5);
        y.want(0, false);
        y.run(1);
        Check.same("GONE is lost", 1, y.traffic(2, true));
        y.run(14);
        knows("POLL in 19", y, 0, 3, 19);
        y.run(2);
        knows("idle", y, 0, 0, 21);
    }

    private static void stateThatIsOlderThanAGrant() {
        // runs for the panel from 4 on; stopped ahead of 19, it sends GONE and ASK when the panel sends POLL
        BlackoutStart x = Texts.loaded("fuse 9;outlet a 1 9 9 3 1;patience 3;retry 5;");
        x.run(21);
        knows("RUNS in 6", x, 0, 3, 6);
        x.want(0, false);
        x.want(0, true);
        x.run(1);
        int[] kinds = {2, 0, 5};
        for (int k = 0; k < 3; k++) {
            Check.same("GONE, ASK, POLL " + k, kinds[k], x.message(k, 0));
        }
        x.run(1);
        Check.same("STATE waiting", 1, x.message(0, 2));
        Check.same("GRANT", 4, x.message(1, 0));
        knows("granted in 22", x, 0, 2, 22);
        x.run(1);
        knows("the GRANT is newer", x, 0, 2, 22);
        Check.same("one more GRANT", 2, x.traffic(4, false));
        Check.same("starting", 2, x.outlet(0, 6));
    }

    private static void stateThatIsNewerThanAGrant() {
        // the GRANT of 1 finds it idle; the POLL of 3 finds it waiting in 4
        BlackoutStart x = Texts.loaded("fuse 9;outlet a 1 9 9 3 1;patience 2;retry 1;");
        x.run(2);
        x.want(0, false);
        x.run(2);
        x.want(0, true);
        x.run(1);
        Check.same("STATE and ASK", 2, x.count(6));
        Check.same("STATE waiting", 1, x.message(0, 2));
        x.run(1);
        knows("STATE made it 1, and the panel granted", x, 0, 2, 5);
        x.run(1);
        knows("ASK of one that is granted changes nothing", x, 0, 2, 5);
        Check.same("starting", 2, x.outlet(0, 6));
        // GONE, STATE and ASK in one tick: GONE makes the mark 0, STATE 1, all before the panel acts
        BlackoutStart y = Texts.loaded("fuse 9;outlet a 1 9 9 1 1;patience 3;retry 1;");
        y.run(19);
        Check.same("no POLL before 19", 0, y.traffic(5, false));
        y.run(1);
        Check.same("POLL in 19", 1, y.traffic(5, false));
        y.want(0, false);
        y.want(0, true);
        y.run(1);
        int[] kinds = {2, 3, 0};
        for (int k = 0; k < 3; k++) {
            Check.same("GONE, STATE, ASK " + k, kinds[k], y.message(k, 0));
        }
        y.run(1);
        knows("granted anew", y, 0, 2, 21);
    }

    private static void stateOfAStartingOutlet() {
        BlackoutStart x = Texts.loaded("fuse 99;outlet a 1 9 9 20 1;patience 3;");
        x.run(5);
        knows("POLL in 4", x, 0, 2, 4);
        x.run(1);
        Check.same("STATE", 3, x.message(0, 0));
        Check.same("starting", 2, x.message(0, 2));
        x.run(1);
        knows("the time alone", x, 0, 2, 6);
        Check.same("not learned", 0, x.known(0, 5));
    }

    private static void stateThatTeaches() {
        // RUNS (number 2) is lost; POLL 3 and STATE 4 tell it
        BlackoutStart x = Texts.loaded("fuse 99;outlet a 1 9 5 1 1;patience 4;loss 00100;");
        x.run(5);
        knows("RUNS is lost", x, 0, 2, 1);
        Check.same("still 9", 9, x.load(2));
        x.run(1);
        knows("POLL in 5", x, 0, 2, 5);
        x.run(2);
        knows("STATE running", x, 0, 3, 7);
        Check.same("learned", 5, x.known(0, 2));
        Check.same("learned flag", 1, x.known(0, 5));
        Check.same("in order", 0, x.learned(0));
    }

    private static void askOfOneThatRuns() {
        // a runs, is stopped and waits again; its GONE (number 3) is lost, its ASK (4) arrives
        BlackoutStart x = Texts.loaded("fuse 99;outlet a 1 9 5 1 1;loss 00010000;");
        x.run(5);
        knows("runs", x, 0, 3, 4);
        x.want(0, false);
        x.want(0, true);
        x.run(1);
        Check.same("GONE is lost", 1, x.traffic(2, true));
        Check.same("ASK is on the wire", 0, x.message(0, 0));
        x.run(1);
        knows("from 3 to 1, and granted", x, 0, 2, 6);
        Check.same("by its learned PEAK", 5, x.load(2));
    }

    private static void orderOfActing() {
        BlackoutStart x = Texts.loaded("fuse 99;outlet a 1 9 5 1 1;outlet b 1 9 5 1 9;outlet c 1 9 5 2 5;need c a;retry 2;");
        x.run(2);
        // by PRIORITY: b before a
        Check.same("GRANT b", 1, x.message(0, 1));
        Check.same("GRANT a", 0, x.message(1, 1));
        x.run(2);
        // in 3: a RUNS, b RUNS, (c asked in 2)
        Check.same("RUNS a", 0, x.message(0, 1));
        Check.same("RUNS b", 1, x.message(1, 1));
        x.want(1, false);
        x.want(0, false);
        x.want(0, true);
        x.run(1);
        // in 4: a GONE, a ASK, b GONE, c ASK, GRANT c
        int[] kinds = {2, 0, 2, 0, 4};
        int[] outlets = {0, 0, 1, 2, 2};
        Check.same("five", 5, x.count(6));
        for (int k = 0; k < 5; k++) {
            Check.same("kind " + k, kinds[k], x.message(k, 0));
            Check.same("outlet " + k, outlets[k], x.message(k, 1));
        }
        pollsBeforeGrants();
    }

    private static void pollsBeforeGrants() {
        BlackoutStart x = Texts.loaded("fuse 99;outlet a 1 9 5 20 9;outlet b 1 9 5 20 8;outlet c 1 9 5 20 9;patience 2;off a;");
        x.run(2);
        x.want(0, true);
        x.run(2);
        // in 3: POLL b, POLL c by their numbers, then GRANT a
        int[] kinds = {5, 5, 4};
        int[] outlets = {1, 2, 0};
        for (int k = 0; k < 3; k++) {
            Check.same("kind " + k, kinds[k], x.message(k, 0));
            Check.same("outlet " + k, outlets[k], x.message(k, 1));
        }
    }

    private static void panelReserves() {
        BlackoutStart just = Texts.loaded("fuse 100;outlet a 40 60 50 1 5;outlet b 20 40 30 1 5;");
        just.run(2);
        Check.same("60 + 40 just fit", 3, just.outletsWith(2, true));
        BlackoutStart over = Texts.loaded("fuse 99;outlet a 40 60 50 1 5;outlet b 20 40 30 1 5;");
        over.run(2);
        Check.same("60 + 40 are too much", 1, over.outletsWith(2, true));
        over.run(3);
        Check.same("behind RUNS 40 + 40 fit", 2, over.outletsWith(2, true));
        Check.same("STEADY and INRUSH", 80, over.load(2));
        BlackoutStart passed = Texts.loaded("fuse 99;outlet a 40 60 50 1 9;outlet b 20 40 30 1 5;outlet c 20 39 30 1 1;");
        passed.run(2);
        Check.same("b is passed over, c fits", 5, passed.outletsWith(2, true));
        BlackoutStart strict = Texts.loaded("fuse 99;outlet a 40 60 50 1 9;outlet b 20 40 30 1 5;outlet c 20 39 30 1 1;strict;");
        strict.run(2);
        Check.same("with strict the panel ends at b", 1, strict.outletsWith(2, true));
        BlackoutStart needy = Texts.loaded("fuse 99;outlet a 40 60 50 1 9;outlet b 20 40 30 1 5;outlet c 20 39 30 1 1;"
                + "need b a;strict;");
        needy.run(2);
        Check.same("with strict one whose need does not run is passed over", 5, needy.outletsWith(2, true));
    }

    private static void tripping() {
        BlackoutStart x = Texts.loaded("fuse 100;outlet a 90 90 90 1 1;outlet b 10 10 10 1 1;outlet c 1 1 1 1 1;off c;");
        x.run(3);
        Check.same("100 are not too much", 0, x.count(5));
        Check.same("load", 100, x.load(1));
        x.setFuse(99);
        x.run(1);
        Check.same("tripped", 1, x.count(5));
        Check.same("a blackout", 1, x.count(4));
        Check.same("in the new tick", 4, x.count(2));
        Check.same("dark", 0, x.count(3));
        Check.same("all wait", 3, x.outletsWith(1, false));
        Check.same("c is idle", 4, x.outletsWith(0, false));
        Check.same("messages are gone", 0, x.count(6));
        knows("unknown", x, 0, 0, 4);
        knows("c, too", x, 2, 0, 4);
        Check.same("they ran in 3", 3, x.outlet(0, 9));
        x.run(5);
        Check.same("power in 9", 1, x.count(3));
        Check.same("nothing is sent in the dark", 4 + 2, x.count(7));
        x.run(1);
        Check.same("ASKs in 9", 8, x.count(7));
        Check.same("peak stays", 100, x.load(1));
    }

    private static void darkness() {
        BlackoutStart x = Texts.loaded("fuse 100;outlet a 10 20 20 5 1;dark 4 3;");
        x.run(4);
        Check.same("starting", 2, x.outlet(0, 6));
        x.run(1);
        Check.same("waiting", 1, x.outlet(0, 6));
        Check.same("no ticks left", 0, x.outlet(0, 7));
        knows("unknown", x, 0, 0, 4);
        x.run(2);
        Check.same("power in 7", 1, x.count(3));
        Check.same("tick", 7, x.count(2));
        Check.same("no ASK yet", 1, x.traffic(0, false));
        x.run(1);
        Check.same("ASK in 7", 2, x.traffic(0, false));
        x.run(2);
        Check.same("started twice", 2, x.outlet(0, 8));
        // a stop that was not told is forgotten
        BlackoutStart y = Texts.loaded("fuse 100;outlet a 10 20 20 5 1;");
        y.run(4);
        y.want(0, false);
        y.blackout(1);
        y.run(3);
        Check.same("no GONE", 0, y.traffic(2, false));
        // the GRANT is gone with the blackout ahead of the tick
        BlackoutStart z = Texts.loaded("fuse 100;outlet a 10 20 20 5 1;dark 2 1;");
        z.run(3);
        Check.same("not started", 0, z.outlet(0, 8));
        Check.same("not counted as lost", 0, z.count(8));
    }

    private static void darknessOverlaps() {
        BlackoutStart x = Texts.loaded("fuse 100;outlet a 10 20 20 5 1;dark 4 10;dark 6 3;dark 12 5;");
        x.run(5);
        knows("first", x, 0, 0, 4);
        x.run(2);
        knows("second", x, 0, 0, 6);
        Check.same("two", 2, x.count(4));
        x.run(5);
        Check.same("still the first", 0, x.count(3));
        x.run(4);
        Check.same("the third goes on behind it", 0, x.count(3));
        x.run(1);
        Check.same("17", 17, x.count(2));
        Check.same("power in 17", 1, x.count(3));
        BlackoutStart y = Texts.loaded("fuse 100;outlet a 10 20 20 5 1;dark 14 2;");
        Check.same("until 7", 7, y.blackout(7));
        Check.same("until 7 still", 7, y.blackout(2));
        Check.same("until 9", 9, y.blackout(9));
        y.run(14);
        Check.same("power", 1, y.count(3));
        Check.same("three", 3, y.count(4));
        y.run(1);
        Check.same("four", 4, y.count(4));
    }

    private static void learningOrder() {
        // b runs before a, c has no right: its need is idle
        BlackoutStart x = Texts.loaded("fuse 100;outlet a 10 20 20 6 1;outlet b 10 20 20 1 1;outlet c 10 20 20 1 1;"
                + "outlet d 1 1 1 1 1;need c d;off d;");
        x.run(9);
        Check.same("a is told of in 9", -1, x.known(0, 4));
        x.run(1);
        Check.same("b is the first", 1, x.learned(0));
        Check.same("a is the second", 0, x.learned(1));
        Check.same("c has no place", -1, x.known(2, 4));
        // d runs now, too, and c behind it: places by when they ran
        x.want(3, true);
        x.run(20);
        Check.same("d is the third", 3, x.learned(2));
        Check.same("c is the fourth", 2, x.learned(3));
        // a stops and starts again: its place is that of the first time
        x.want(1, false);
        x.run(2);
        x.want(1, true);
        x.run(20);
        Check.same("b stays the first", 1, x.learned(0));
    }

    /** In the queue of equal priorities, the learned come first, by their places, then the others. */
    private static void queueByTheLearnedOrder() {
        // a is idle at first; c starts faster than b, and so is the first of the order
        BlackoutStart x = Texts.loaded("fuse 100;outlet a 10 90 90 1 1;outlet b 10 30 30 3 1;outlet c 10 30 30 1 1;off a;");
        x.run(9);
        Check.same("c, b", 2, x.learned(0));
        Check.same("c, b, and", 1, x.learned(1));
        x.want(0, true);
        x.blackout(1);
        x.setFuse(30);
        x.run(3);
        Check.same("c first", 4, x.outletsWith(2, true));
        x.setFuse(90);
        Check.same("then b, and a is passed over", 2, x.grants());
        x.setFuse(120);
        Check.same("not a instead of b", 2, x.grants());
        x.setFuse(150);
        Check.same("both", 3, x.grants());
        BlackoutStart y = Texts.loaded("fuse 100;outlet a 10 90 90 1 1;outlet b 10 30 30 3 1;outlet c 10 30 30 1 1;");
        y.run(2);
        Check.same("without an order by the numbers", 1, y.outletsWith(2, true));
    }

    private static void pollsAnsweredTogether() {
        BlackoutStart x = Texts.loaded("fuse 100;outlet a 1 2 2 20 1;outlet b 1 2 2 20 1;outlet c 1 2 2 20 1;patience 6;");
        x.run(8);
        Check.same("three POLLs in 7", 3, x.count(6));
        x.run(1);
        Check.same("three STATEs in 8", 3, x.traffic(3, false));
        x.run(3);
        Check.same("answered once", 3, x.traffic(3, false));
    }

    private static void learningAgainBehindForget() {
        BlackoutStart x = Texts.loaded("fuse 100;outlet a 10 20 15 1 1;outlet b 10 20 15 1 1;");
        x.run(6);
        Check.same("two forgotten", 2, x.forget());
        Check.same("no place", -1, x.known(0, 4));
        x.run(1);
        Check.same("the present order is learned in the next tick", 0, x.known(0, 4));
        Check.same("the PEAK is not", 0, x.known(0, 5));
        x.forget();
        x.want(0, false);
        x.want(1, false);
        x.run(1);
        Check.same("no rights, no order", -1, x.known(0, 4));
    }

    private static void presentOrderBeginsAnew() {
        BlackoutStart x = Texts.loaded("fuse 100;outlet a 10 20 15 1 1;outlet b 10 20 15 1 2;outlet c 10 20 15 1 3;");
        x.run(6);
        for (int k = 0; k < 3; k++) {
            Check.same("by the numbers that RUNS came in " + k, k, x.learned(k));
        }
        x.want(1, false);
        x.blackout(1);
        Check.same("b keeps its place in the dark", 1, x.known(1, 4));
        x.run(8);
        Check.same("a", 0, x.learned(0));
        Check.same("c", 2, x.learned(1));
        Check.index("b is in the order no more", x, () -> x.learned(2));
    }
}
