/** The boundary cases of the sections LEARNING, BLACKOUTS and EXCEPTIONS. */
public final class LearningAndBlackoutEdgesTest extends Edge {
    /** a asks in 0, is granted in 1, starts in 2, runs in 3, which the panel knows in 4. */
    private static final String ONE = "fuse 99;outlet a 3 9 5 1 5;";
    /** b, which takes one tick, is known to run in 4; a, which takes three, in 6. */
    private static final String TWO = "fuse 99;outlet a 3 9 5 3 5;outlet b 3 9 5 1 5;";

    public static void main(String[] args) {
        runAll(LearningAndBlackoutEdgesTest.class);
    }

    private static String marksAndTimes(BlackoutStart x) {
        return marks(x) + " " + times(x);
    }

    // LEARNING

    private static void learning_all_whenTheLastOneIsKnownToRun() {
        BlackoutStart x = of(TWO);
        x.run(6);
        same("a runs, which is not known", "33 23 ", states(x) + " " + marks(x) + " " + order(x));
        x.run(1);
        same("known", "33 33 1 0", states(x) + " " + marks(x) + " " + order(x));
    }

    private static void learning_all_ofOneOutlet() {
        BlackoutStart x = of(ONE);
        x.run(4);
        same("not known", "", order(x));
        x.run(1);
        same("known", "0", order(x));
    }

    private static void learning_rights_noneHasOneSoNothingIsLearned() {
        BlackoutStart x = of(ONE);
        x.run(4);
        x.setFuse(8);
        x.run(3);
        same("it runs without a right", "3 0 ", marks(x) + " " + x.rights() + " " + order(x));
        same("and without a trip", 0, x.count(5));
    }

    private static void learning_rights_noneHasOneSoTheOldOrderStays() {
        BlackoutStart x = of(TWO);
        x.run(9);
        x.want(0, false);
        x.want(1, false);
        x.run(9);
        same("none runs", "00 0 1 0", marks(x) + " " + x.rights() + " " + order(x));
    }

    private static void learning_rights_alsoInATickWithoutAMessage() {
        BlackoutStart x = of(ONE);
        x.run(4);
        x.setFuse(8);
        x.run(3);
        x.setFuse(9);
        same("not by setFuse()", "", order(x));
        x.run(1);
        same("in the next tick", "0", order(x));
    }

    private static void learning_rights_oneThatStopsWantingIsWaitedForNoMore() {
        BlackoutStart x = of("fuse 99;outlet a 3 9 5 1 5;outlet b 3 9 5 20 5;");
        x.run(9);
        same("b is starting", "32 ", marks(x) + " " + order(x));
        x.want(1, false);
        x.run(1);
        same("a is all", "0", order(x));
    }

    private static void learning_rights_oneThatHasNoneIsNotWaitedFor() {
        BlackoutStart x = of("fuse 99;outlet a 3 9 5 1 5;outlet b 3 100 5 1 5;outlet c 3 9 5 1 5;need c b;");
        x.run(5);
        same("a is all", "311 0", marks(x) + " " + order(x));
    }

    private static void learning_order_hasThoseWithoutARightAsWell() {
        BlackoutStart x = of("fuse 99;outlet a 3 9 5 3 5;outlet b 3 50 5 1 5;");
        x.run(5);
        x.setFuse(20);
        same("a alone has a right", 1, x.rights());
        x.run(2);
        same("b is in the order", "1 0", order(x));
    }

    private static void learning_order_hasThoseThatStoppedAsWell() {
        BlackoutStart x = of(TWO);
        x.run(5);
        x.want(1, false);
        x.run(2);
        same("b ran and stopped", "30 1 0", marks(x) + " " + order(x));
    }

    private static void learning_order_isOfTheFirstTime() {
        BlackoutStart x = of(TWO);
        x.run(9);
        x.want(1, false);
        x.run(3);
        x.want(1, true);
        x.run(9);
        same("b runs again", "33 1 0", marks(x) + " " + order(x));
    }

    private static void learning_order_ofThoseThatAreToldOfInOneTickIsThatOfTheMessages() {
        BlackoutStart x = of("fuse 99;outlet a 3 9 5 1 0;outlet b 3 9 5 1 5;outlet c 3 9 5 1 9;");
        x.run(5);
        same("by the numbers, as RUNS was sent", "0 1 2", order(x));
    }

    private static void learning_order_takesThePlaceOfTheOldOne() {
        BlackoutStart x = of(TWO);
        x.run(9);
        same("b, a", "1 0", order(x));
        x.want(1, false);
        x.blackout(1);
        x.run(9);
        same("a alone", "0", order(x));
        same("b has no place", -1, x.known(1, 4));
    }

    private static void learning_order_staysWhileNotAllRunAgain() {
        BlackoutStart x = of(TWO);
        x.run(9);
        x.setPriority(0, 9);
        x.setFuse(9);
        x.blackout(1);
        x.run(8);
        same("a alone runs yet", "32 1 0", marks(x) + " " + order(x));
    }

    private static void learning_order_beginsAnewAfterEachBlackout() {
        BlackoutStart x = of(TWO);
        x.run(5);
        same("b is known to run, and nothing is learned", "23 ", marks(x) + " " + order(x));
        x.want(1, false);
        x.blackout(1);
        x.run(9);
        same("a alone has run since", "30 0", marks(x) + " " + order(x));
    }

    private static void learning_when_beforeThePanelActsInTheSameTick() {
        // n has no right behind setFuse(30), so neither have p and q, which need it; s has one, and runs
        BlackoutStart x = of("fuse 200;outlet n 1 50 1 1 9;outlet p 5 20 5 2 1;outlet q 5 20 5 1 1;outlet s 1 1 1 1 1;"
                + "need p n;need q n;");
        x.run(9);
        same("q before p", "0 3 2 1", order(x));
        for (int k = 1; k <= 2; k++) {
            x.want(k, false);
            x.want(k, true);
        }
        x.run(1);
        x.setFuse(30);
        x.forget();
        same("forgotten", "", order(x));
        x.run(1);
        same("q, by its place, and no more fits", "3123", marks(x));
        same("s alone has a right", 8, x.rights());
    }

    private static void learning_when_behindTheReceivingOfMessages() {
        BlackoutStart x = of(ONE);
        x.run(9);
        x.want(0, false);
        x.want(0, true);
        x.run(1);
        x.forget();
        x.run(1);
        same("GONE and ASK are received, so that it is not learned again", "2 ", marks(x) + " " + order(x));
    }

    private static void learning_when_notInTheDark() {
        BlackoutStart x = of(ONE);
        x.run(4);
        x.blackout(3);
        x.run(3);
        same("RUNS is gone", "", order(x));
    }

    // BLACKOUTS

    private static void blackouts_length_1() {
        BlackoutStart x = of(ONE);
        x.blackout(1);
        same("dark in 0", 0, x.count(3));
        x.run(1);
        same("power in 1", "1 0", x.count(3) + " " + x.count(7));
        x.run(1);
        same("ASK in 1", 1, x.count(7));
    }

    private static void blackouts_length_50() {
        BlackoutStart x = of(ONE);
        x.blackout(50);
        x.run(50);
        same("nothing is sent until 49", "1 0", x.count(3) + " " + x.count(7));
        x.run(1);
        same("ASK in 50", 1, x.count(7));
    }

    private static void blackouts_overlap_aShorterOneInside() {
        BlackoutStart x = of("fuse 1;dark 2 9;dark 5 3;");
        x.run(10);
        same("dark in 10", "0 2", x.count(3) + " " + x.count(4));
        x.run(1);
        same("power in 11", 1, x.count(3));
    }

    private static void blackouts_overlap_oneThatEndsAtTheSameTime() {
        BlackoutStart x = of("fuse 1;dark 2 9;dark 5 6;");
        x.run(10);
        same("dark in 10", "0 2", x.count(3) + " " + x.count(4));
        x.run(1);
        same("power in 11", 1, x.count(3));
    }

    private static void blackouts_overlap_oneThatEndsATickLater() {
        BlackoutStart x = of("fuse 1;dark 2 9;dark 5 7;");
        x.run(11);
        same("dark in 11", "0 2", x.count(3) + " " + x.count(4));
        x.run(1);
        same("power in 12", 1, x.count(3));
    }

    private static void blackouts_overlap_oneThatBeginsWhenTheOtherEnds() {
        BlackoutStart x = of("fuse 1;outlet a 0 2 0 1 0;dark 2 3;dark 5 2;");
        x.run(5);
        same("the second does not count yet", "1 1", x.count(3) + " " + x.count(4));
        x.run(1);
        same("dark in 6", "0 2", x.count(3) + " " + x.count(4));
        x.run(1);
        same("power in 7, and none was between", "1 1", x.count(3) + " " + x.count(7));
    }

    private static void blackouts_overlap_aTripInsideACall() {
        BlackoutStart x = of("fuse 9;outlet a 9 9 9 1 5;");
        x.run(9);
        x.setFuse(8);
        x.run(1);
        same("trip until 15, call until 16", 16, x.blackout(6));
        same("both", "2 1", x.count(4) + " " + x.count(5));
    }

    private static void blackouts_begin_allThatWantToRunAreWaiting() {
        BlackoutStart x = of("fuse 99;outlet a 3 9 5 1 5;outlet b 3 9 5 20 5;outlet c 3 99 5 1 5;outlet d 3 9 5 1 5;off d;");
        x.run(9);
        same("running, starting, waiting, idle", "3210", states(x));
        x.blackout(1);
        same("waiting, and d is idle", "1110", states(x));
        same("no ticks left", "0 0 0 0", ofAll(x, 7, " "));
    }

    private static void blackouts_begin_allMarksAre0AndTheirTimesT() {
        BlackoutStart x = of("fuse 99;outlet a 3 9 5 1 5;outlet b 3 9 5 20 5;outlet c 3 99 5 1 5;outlet d 3 9 5 1 5;off d;");
        x.run(9);
        same("all four", "3210", marks(x));
        x.blackout(3);
        same("0", "0000 9 9 9 9", marksAndTimes(x));
        x.run(2);
        same("the times stay", "0000 9 9 9 9", marksAndTimes(x));
        x.blackout(1);
        same("but for another one in the dark", "0000 11 11 11 11", marksAndTimes(x));
    }

    private static void blackouts_begin_inTheTick0() {
        BlackoutStart x = of(ONE);
        x.blackout(1);
        same("marks", "0 0 1", marksAndTimes(x) + " " + states(x));
    }

    private static void blackouts_begin_messagesAreGoneAndNotLost() {
        BlackoutStart x = of(ONE);
        x.run(2);
        same("GRANT", "GRANT0", wire(x));
        x.blackout(1);
        same("gone", " 2 0", wire(x) + " " + x.count(7) + " " + x.count(8));
        x.run(2);
        same("it does not start", "0 0", x.outlet(0, 8) + " " + x.load(0));
    }

    private static void blackouts_begin_alsoInTheDarkAllBeginToWaitAnew() {
        BlackoutStart x = of(ONE);
        x.blackout(4);
        x.want(0, false);
        x.run(1);
        x.want(0, true);
        x.blackout(1);
        x.run(4);
        same("ASK in 4", "ASK0 5", wire(x) + " " + x.count(2));
    }

    private static void blackouts_begin_aPollIsAnsweredNoMore() {
        BlackoutStart x = of(ONE);
        x.run(25);
        same("sent in 24", "POLL0", wire(x));
        x.blackout(1);
        x.run(3);
        same("no STATE", 0, x.traffic(3, false));
    }

    private static void blackouts_begin_aStopIsToldNoMore() {
        BlackoutStart x = of(ONE);
        x.run(9);
        x.want(0, false);
        x.blackout(1);
        x.run(3);
        same("no GONE", 0, x.traffic(2, false));
        x.want(0, true);
        x.run(9);
        same("no GONE", "3 0", states(x) + " " + x.traffic(2, false));
    }

    private static void blackouts_begin_aStopAheadOfADarkTickOfTheTextIsToldNoMore() {
        BlackoutStart x = of(ONE + "dark 9 1;");
        x.run(9);
        x.want(0, false);
        x.want(0, true);
        x.run(2);
        same("ASK alone", "ASK0", wire(x));
    }

    private static void blackouts_learned_stays() {
        BlackoutStart x = of(TWO);
        x.run(9);
        x.blackout(50);
        same("at once", "1 0 5 5", order(x) + " " + expected(x));
        x.run(52);
        same("behind it", "1 0 5 5", order(x) + " " + expected(x));
    }

    private static void blackouts_learned_aDrawWithoutAnOrderStaysToo() {
        BlackoutStart x = of(TWO);
        x.run(5);
        x.blackout(1);
        same("b's alone", "9 5 ", expected(x) + " " + order(x));
    }

    private static void blackouts_counts_stay() {
        BlackoutStart x = of(ONE + "loss 10;");
        x.run(20);
        String before = x.count(7) + " " + x.count(8) + " " + x.outlet(0, 8) + " " + x.outlet(0, 9) + " " + x.load(1);
        x.blackout(9);
        same("as before", before, x.count(7) + " " + x.count(8) + " " + x.outlet(0, 8) + " " + x.outlet(0, 9) + " "
                + x.load(1));
    }

    private static void blackouts_start_takesAllItsTicksAgain() {
        BlackoutStart x = of("fuse 99;outlet a 3 9 5 9 5;");
        x.run(8);
        same("3 are left", 3, x.outlet(0, 7));
        x.blackout(1);
        x.run(4);
        same("8 are left", "2 8 2", states(x) + " " + x.outlet(0, 7) + " " + x.outlet(0, 8));
    }

    // EXCEPTIONS

    /** Each call here throws; the objects and the calls are taken one after the other. */
    private static Check.Call[] refused(BlackoutStart x) {
        int outlets = x.count(0);
        return new Check.Call[] {() -> x.truncate(-1), () -> x.truncate(901), () -> x.count(-1), () -> x.count(14),
            () -> x.outlet(-1, 0), () -> x.outlet(outlets, 0), () -> x.outlet(0, 10), () -> x.known(-1, 0),
            () -> x.known(outlets, 0), () -> x.known(0, 6), () -> x.needs(outlets, true), () -> x.outletsWith(4, true),
            () -> x.load(3), () -> x.message(-1, 0), () -> x.message(99, 0), () -> x.traffic(6, true), () -> x.learned(-1),
            () -> x.learned(12), () -> x.why(outlets), () -> x.runsIn(outlets), () -> x.runsIn(-1), () -> x.allIn(4),
            () -> x.peakIn(0, 1), () -> x.peakIn(501, 1), () -> x.peakIn(1, 0), () -> x.sentIn(0, 1), () -> x.sentIn(1, 21),
            () -> x.run(0), () -> x.run(201), () -> x.blackout(0), () -> x.blackout(51), () -> x.want(outlets, false),
            () -> x.want(-1, true), () -> x.setFuse(0), () -> x.setFuse(10000), () -> x.setPriority(outlets, 1),
            () -> x.setPriority(0, 10), () -> { x.save(2); return 0; }, () -> { x.restore(2); return 0; },
            () -> { x.restore(1); return 0; }};
    }

    private static void exceptions_throwing_changesNothing() {
        BlackoutStart x = busy();
        BlackoutStart twin = busy();
        x.run(3);
        x.save(0);
        twin.run(3);
        twin.save(0);
        for (int k = 0; k < 40; k++) {
            Texts.put(x, "a");
            for (Check.Call call : refused(x)) {
                same("throws", true, Check.answer(call).toString().startsWith("throws"));
            }
            same("the buffer", 0, x.find());
            x.run(1);
            twin.run(1);
            samePicture("in " + k, Check.picture(twin), Check.picture(x));
        }
        same("undone", twin.undo(), x.undo());
        samePicture("as before", Check.picture(twin), Check.picture(x));
        twin.restore(0);
        x.restore(0);
        samePicture("the slot", Check.picture(twin), Check.picture(x));
    }

    private static void exceptions_throwing_atTheEndOfTheTimeChangesNothing() {
        BlackoutStart x = of(ONE);
        runTo(x, 4999);
        throwsState(x, () -> x.run(2));
        throwsArgument(x, () -> x.run(201));
        same("4999", 4999, x.count(2));
    }

    private static void exceptions_throwing_ofALoadAndAFindEmptiesTheBuffer() {
        BlackoutStart x = of(ONE);
        Texts.put(x, "fuse 0;");
        Check.answer(() -> x.load());
        throwsIndex(x, () -> x.truncate(1));
        Texts.put(x, "nobody");
        Check.answer(() -> x.find());
        throwsIndex(x, () -> x.truncate(1));
    }

    private static void exceptions_order_theOneNamedFirst() {
        BlackoutStart x = of(ONE);
        x.run(1);
        throwsIndex(x, () -> x.outlet(1, 10));
        throwsIndex(x, () -> x.known(1, 6));
        throwsIndex(x, () -> x.message(1, 3));
        throwsIndex(x, () -> x.setPriority(1, 10));
        throwsIndex(x, () -> { x.restore(2); return 0; });
        throwsIndex(x, () -> x.runsIn(1));
        throwsArgument(x, () -> x.allIn(4));
        runTo(x, 5000);
        throwsArgument(x, () -> x.run(0));
        throwsArgument(x, () -> x.run(201));
    }
}
