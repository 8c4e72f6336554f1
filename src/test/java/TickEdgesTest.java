/** The boundary cases of the sections OUTLETS, MESSAGES, THE PANEL and A TICK. */
public final class TickEdgesTest extends Edge {
    /** a asks in 0, is granted in 1, starts in 2, runs in 3, which the panel knows in 4. */
    private static final String ONE = "fuse 99;outlet a 3 9 5 1 5;";
    private static final String TWO = "fuse 99;outlet a 3 9 5 1 5;outlet b 3 9 5 1 5;";

    public static void main(String[] args) {
        runAll(TickEdgesTest.class);
    }

    private static String marksAndTimes(BlackoutStart x) {
        return marks(x) + " " + times(x);
    }

    /**
     * a runs, and is stopped and waits again ahead of the tick 24, in which it sends GONE and ASK (numbers 3
     * and 4) and the panel POLL (5); behind it its STATE is 6. It asks no second time.
     */
    private static BlackoutStart stoppedWhenPolled(String loss) {
        BlackoutStart x = of(ONE + "retry 20;loss " + loss + ";");
        x.run(24);
        same("it runs", "3 4", marksAndTimes(x));
        x.want(0, false);
        x.want(0, true);
        return x;
    }

    // OUTLETS

    private static void outlets_atFirst_powerAndNothingStartsOrRuns() {
        BlackoutStart x = of(TWO + "off b;");
        same("states", "10", states(x));
        same("power, load, sent", "1 0 0", x.count(3) + " " + x.load(0) + " " + x.count(7));
    }

    private static void outlets_draw_peakSteadyAndNothing() {
        BlackoutStart x = of(ONE);
        int[] due = {0, 0, 0, 5, 3, 3};
        for (int draw : due) {
            same("load in " + x.count(2), draw, x.load(0));
            x.run(1);
        }
        x.want(0, false);
        same("idle", 0, x.load(0));
    }

    private static void outlets_draw_peakInEachOfItsTicks() {
        BlackoutStart x = of("fuse 99;outlet a 3 9 5 20 5;");
        x.run(3);
        for (int k = 0; k < 20; k++) {
            same("load", "5 2", x.load(0) + " " + states(x));
            x.run(1);
        }
        same("load", "3 3", x.load(0) + " " + states(x));
    }

    private static void outlets_draw_nothingAtAll() {
        BlackoutStart x = of("fuse 1;outlet a 0 0 0 1 5;");
        x.run(9);
        same("it runs", "3 0 0", states(x) + " " + x.load(0) + " " + x.load(2));
    }

    private static void outlets_draw_theGreatest() {
        BlackoutStart x = of("fuse 9999;outlet a 999 1999 1999 1 5;outlet b 999 1999 1999 1 5;outlet c 999 1999 1999 1 5;"
                + "outlet d 999 1999 1999 1 5;outlet e 999 1999 1999 1 5;outlet f 0 4 4 1 4;outlet g 0 1 0 1 3;");
        x.run(3);
        same("five and f, not g", "2222221 9999", states(x) + " " + x.load(0));
        same("no trip", 0, x.count(5));
    }

    // MESSAGES

    private static void messages_numbers_beginAt0() {
        BlackoutStart x = of("fuse 8;outlet a 3 9 5 1 5;retry 1;loss 10;");
        x.run(1);
        same("the number 0 is lost", "1 1", x.count(7) + " " + x.count(8));
        x.run(1);
        same("the number 1 is not", "2 1", x.count(7) + " " + x.count(8));
    }

    private static void messages_script_isCountedRoundAndRound() {
        BlackoutStart x = of("fuse 8;outlet a 3 9 5 1 5;retry 1;loss 011;");
        int[] lost = {0, 1, 2, 2, 3, 4, 4, 5, 6, 6};
        for (int due : lost) {
            x.run(1);
            same("lost in " + x.count(2), due, x.count(8));
        }
    }

    private static void messages_script_of1Digit() {
        BlackoutStart x = of("fuse 8;outlet a 3 9 5 1 5;retry 1;loss 1;");
        x.run(50);
        same("all", 50, x.count(8));
        BlackoutStart y = of("fuse 8;outlet a 3 9 5 1 5;retry 1;loss 0;");
        y.run(50);
        same("none", 0, y.count(8));
    }

    private static void messages_script_of24Digits() {
        BlackoutStart x = of("fuse 8;outlet a 3 9 5 1 5;retry 1;loss 100000000000000000000001;");
        int[] lost = {1, 1, 1, 1, 1, 1, 1, 1, 1, 1, 1, 1, 1, 1, 1, 1, 1, 1, 1, 1, 1, 1, 1, 2, 3, 3};
        for (int due : lost) {
            x.run(1);
            same("lost in " + x.count(2), due, x.count(8));
        }
        x.run(22);
        same("the place 23 again", 4, x.count(8));
    }

    private static void messages_script_eachOfTheKindsMayBeLost() {
        // in the order in which they are sent: ASK, GRANT, RUNS, then in 24 GONE, ASK, POLL, and STATE in 25
        String[] told = {"", "ASK0", "GRANT0", "RUNS0"};
        int[] ticks = {0, 1, 2, 4};
        for (int k = 1; k <= 3; k++) {
            BlackoutStart x = of(ONE);
            x.run(ticks[k]);
            same("without loss", told[k], wire(x));
            BlackoutStart y = of(ONE + "loss " + "0".repeat(k - 1) + "1" + "0".repeat(10) + ";");
            y.run(ticks[k]);
            same("with loss", " 1", wire(y) + " " + y.count(8));
        }
        BlackoutStart x = stoppedWhenPolled("000100000000");
        x.run(1);
        same("GONE is lost", "ASK0 POLL0 1", wire(x) + " " + x.traffic(2, true));
        x = stoppedWhenPolled("000010000000");
        x.run(1);
        same("ASK is lost", "GONE0 POLL0 1", wire(x) + " " + x.traffic(0, true));
        x = stoppedWhenPolled("000001000000");
        x.run(1);
        same("POLL is lost", "GONE0 ASK0 1", wire(x) + " " + x.traffic(5, true));
        x = stoppedWhenPolled("000000100000");
        x.run(2);
        same("STATE is lost", "GRANT0 1", wire(x) + " " + x.traffic(3, true));
    }

    private static void messages_received_inTheNextTickAndNotInTheirOwn() {
        BlackoutStart x = of(ONE);
        x.run(1);
        same("ASK is not heard in 0", "0 ASK0", marks(x) + " " + wire(x));
        x.run(1);
        same("ASK is heard in 1, GRANT is not", "2 1 GRANT0", marks(x) + " " + states(x) + " " + wire(x));
        x.run(1);
        same("GRANT is heard in 2", "2 2 ", marks(x) + " " + states(x) + " " + wire(x));
        x.run(1);
        same("RUNS is not heard in 3", "2 3 RUNS0", marks(x) + " " + states(x) + " " + wire(x));
        x.run(1);
        same("RUNS is heard in 4", "3 3 ", marks(x) + " " + states(x) + " " + wire(x));
    }

    private static void messages_received_inTheOrderInWhichTheyWereSent() {
        BlackoutStart x = stoppedWhenPolled("0");
        x.run(1);
        same("GONE, then ASK", "GONE0 ASK0 POLL0", wire(x));
        x.run(1);
        same("the mark is 0, then 1, then 2", "2 25", marksAndTimes(x));
    }

    // THE PANEL

    private static void panel_atFirst_allMarksAndTimesAre0() {
        BlackoutStart x = of(TWO + "off b;");
        same("marks and times", "00 0 0", marksAndTimes(x));
        same("nothing is learned", "9 9 ", expected(x) + " " + order(x));
    }

    private static void panel_reserves_nothingThenTheExpectedDrawThenSteady() {
        BlackoutStart x = of(ONE);
        String[] due = {"0 0", "0 0", "2 9", "2 9", "2 9", "3 3"};
        for (String told : due) {
            same("in " + x.count(2), told, marks(x) + " " + reserved(x));
            x.run(1);
        }
        BlackoutStart y = of("fuse 8;outlet a 3 9 5 1 5;");
        y.run(2);
        same("nothing for the mark 1", "1 0", marks(y) + " " + reserved(y));
    }

    private static void panel_reserves_inTheDarkNothing() {
        BlackoutStart x = of(ONE);
        x.run(9);
        x.blackout(1);
        same("nothing", "0 0", marks(x) + " " + x.load(2));
    }

    // A TICK, 1 and 2: darkness

    private static void tick1_dark_inTheTick1AndInTheTick999() {
        BlackoutStart x = of(ONE + "dark 1 2;dark 999 50;");
        x.run(1);
        same("not in 0", 0, x.count(4));
        x.run(1);
        same("in 1", 1, x.count(4));
        runTo(x, 999);
        same("not before 999", 1, x.count(4));
        x.run(1);
        same("in 999", "2 0", x.count(4) + " " + x.count(3));
        x.run(48);
        same("dark in 1048", 0, x.count(3));
        x.run(1);
        same("power in 1049", 1, x.count(3));
    }

    private static void tick1_dark_severalInOneTick() {
        BlackoutStart x = of("fuse 1;dark 3 2;dark 3 7;dark 3 1;dark 3 7;");
        x.run(4);
        same("four began", 4, x.count(4));
        x.run(5);
        same("dark in 9", 0, x.count(3));
        x.run(1);
        same("power in 10", 1, x.count(3));
    }

    private static void tick1_dark_alsoInATickThatIsDark() {
        BlackoutStart x = of(ONE + "dark 4 3;dark 6 3;");
        x.run(6);
        same("dark since 4", "0 4 1", marksAndTimes(x) + " " + x.count(4));
        x.run(1);
        same("begun anew in 6", "0 6 2", marksAndTimes(x) + " " + x.count(4));
        x.run(1);
        same("dark in 8", 0, x.count(3));
        x.run(1);
        same("power in 9", 1, x.count(3));
    }

    private static void tick2_dark_onlyTheTimeIncreases() {
        BlackoutStart x = of(TWO + "off b;");
        x.run(5);
        x.blackout(4);
        String before = marksAndTimes(x) + states(x) + x.load(0) + x.load(1) + x.load(2) + x.count(7) + wire(x);
        for (int k = 0; k < 4; k++) {
            x.run(1);
            same("tick", 6 + k, x.count(2));
            same("nothing else", before, marksAndTimes(x) + states(x) + x.load(0) + x.load(1) + x.load(2) + x.count(7)
                    + wire(x));
        }
        x.run(1);
        same("ASK", "ASK0", wire(x));
    }

    // A TICK, 3: what is received

    private static void tick3_ask_ofTheMark0() {
        BlackoutStart x = of("fuse 8;outlet a 3 9 5 1 5;");
        x.run(1);
        same("before", "0 0", marksAndTimes(x));
        x.run(1);
        same("behind", "1 1", marksAndTimes(x));
    }

    private static void tick3_ask_ofTheMark1ChangesNothing() {
        BlackoutStart x = of("fuse 8;outlet a 3 9 5 1 5;retry 1;");
        x.run(9);
        same("the time of the first", "1 1", marksAndTimes(x));
    }

    private static void tick3_ask_ofTheMark2ChangesNothing() {
        BlackoutStart x = of(ONE + "retry 1;patience 20;loss 001000000000;");
        x.run(9);
        same("GRANT is lost", 1, x.traffic(4, true));
        same("the time of the GRANT", "2 1", marksAndTimes(x));
        same("no other", 1, x.traffic(4, false));
    }

    private static void tick3_ask_ofTheMark3() {
        BlackoutStart x = stoppedWhenPolled("000100000000");
        x.setFuse(1);
        x.run(2);
        same("GONE is lost, ASK is heard in 25", "1 25", marksAndTimes(x));
    }

    private static void tick3_runs_ofTheMark2() {
        BlackoutStart x = of(ONE);
        x.run(4);
        same("before", "2 1 9", marksAndTimes(x) + " " + expected(x));
        x.run(1);
        same("behind", "3 4 5", marksAndTimes(x) + " " + expected(x));
    }

    private static void tick3_runs_alsoOfAMark2WhoseTimeIsOneBefore() {
        BlackoutStart x = of(ONE + "patience 2;");
        x.run(4);
        same("polled in 3", "2 3", marksAndTimes(x));
        x.run(1);
        same("RUNS in 4", "3 4 5", marksAndTimes(x) + " " + expected(x));
    }

    private static void tick3_gone_ofTheMark3() {
        BlackoutStart x = of(ONE);
        x.run(9);
        x.want(0, false);
        x.run(2);
        same("0", "0 10", marksAndTimes(x));
    }

    private static void tick3_gone_ofTheMark2() {
        BlackoutStart x = of("fuse 99;outlet a 3 9 5 9 5;");
        x.run(3);
        x.want(0, false);
        x.run(1);
        same("before", "2 1", marksAndTimes(x));
        x.run(1);
        same("behind", "0 4", marksAndTimes(x));
    }

    private static void tick3_gone_learnsAndForgetsNothing() {
        BlackoutStart x = of(ONE);
        x.run(9);
        x.want(0, false);
        x.run(2);
        same("learned still", "5 0", expected(x) + " " + order(x));
        BlackoutStart y = of("fuse 99;outlet a 3 9 5 9 5;");
        y.run(3);
        y.want(0, false);
        y.run(2);
        same("not learned", "9 ", expected(y) + " " + order(y));
    }

    private static void tick3_state_idleOfTheMark2() {
        BlackoutStart x = of(ONE + "retry 20;");
        x.run(2);
        x.want(0, false);
        x.run(5);
        same("polled in 5, told in 6", "2 5 STATE0=0", marksAndTimes(x) + " " + wire(x));
        x.run(1);
        same("heard in 7", "0 7", marksAndTimes(x));
    }

    private static void tick3_state_idleOfTheMark3() {
        BlackoutStart x = of(ONE + "loss 000100000000;");
        x.run(24);
        x.want(0, false);
        x.run(2);
        same("GONE is lost, STATE is told in 25", "3 24 STATE0=0", marksAndTimes(x) + " " + wire(x));
        x.run(1);
        same("heard in 26", "0 26", marksAndTimes(x));
    }

    private static void tick3_state_idleOfTheMark0() {
        BlackoutStart x = of(ONE);
        x.run(24);
        x.want(0, false);
        x.run(2);
        same("GONE is heard in 25, STATE is told in 25", "0 25 STATE0=0", marksAndTimes(x) + " " + wire(x));
        x.run(1);
        same("the time alone", "0 26", marksAndTimes(x));
    }

    private static void tick3_state_idleOfTheMark1() {
        BlackoutStart x = stoppedWhenPolled("000100000000");
        x.setFuse(1);
        x.run(1);
        x.want(0, false);
        x.run(1);
        same("ASK is heard in 25", "1 25 STATE0=0", marksAndTimes(x) + " " + wire(x));
        x.run(1);
        same("STATE is heard in 26", "0 26", marksAndTimes(x));
    }

    private static void tick3_state_waitingOfTheMark0() {
        BlackoutStart x = stoppedWhenPolled("000010000000");
        x.setFuse(1);
        x.run(2);
        same("GONE is heard in 25", "0 25 STATE0=1", marksAndTimes(x) + " " + wire(x));
        x.run(1);
        same("STATE is heard in 26", "1 26", marksAndTimes(x));
    }

    private static void tick3_state_waitingOfTheMark1() {
        BlackoutStart x = stoppedWhenPolled("000100000000");
        x.setFuse(1);
        x.run(2);
        same("ASK is heard in 25", "1 25 STATE0=1", marksAndTimes(x) + " " + wire(x));
        x.run(1);
        same("the time of the STATE", "1 26", marksAndTimes(x));
    }

    private static void tick3_state_waitingOfTheMark2() {
        BlackoutStart x = of(ONE + "retry 20;loss 010000000000;");
        x.run(7);
        same("GRANT is lost, STATE is told in 6", "2 5 STATE0=1", marksAndTimes(x) + " " + wire(x));
        x.setFuse(8);
        x.run(1);
        same("heard in 7", "1 7", marksAndTimes(x));
    }

    private static void tick3_state_waitingOfTheMark3() {
        BlackoutStart x = stoppedWhenPolled("000110000000");
        x.setFuse(1);
        x.run(2);
        same("GONE and ASK are lost", "3 24 STATE0=1", marksAndTimes(x) + " " + wire(x));
        x.run(1);
        same("heard in 26", "1 26", marksAndTimes(x));
    }

    private static void tick3_state_startingLeavesTheMark() {
        BlackoutStart x = of("fuse 99;outlet a 3 9 5 20 5;");
        x.run(7);
        same("told in 6", "2 5 STATE0=2", marksAndTimes(x) + " " + wire(x));
        x.run(1);
        same("the time alone", "2 7 9", marksAndTimes(x) + " " + expected(x));
    }

    private static void tick3_state_runningOfTheMark2Teaches() {
        BlackoutStart x = of(ONE + "loss 001000000000;");
        x.run(7);
        same("RUNS is lost", "2 5 STATE0=3", marksAndTimes(x) + " " + wire(x));
        x.run(1);
        same("heard in 7", "3 7 5 0", marksAndTimes(x) + " " + expected(x) + " " + order(x));
    }

    private static void tick3_state_runningOfTheMark3TeachesAgain() {
        BlackoutStart x = of(ONE);
        x.run(9);
        x.forget();
        x.run(16);
        same("polled in 24", "3 24 9", marksAndTimes(x) + " " + expected(x));
        x.run(2);
        same("heard in 26", "3 26 5", marksAndTimes(x) + " " + expected(x));
    }

    private static void tick3_state_ofAMark2WhoseTimeIsOneBeforeChangesNothing() {
        BlackoutStart x = stoppedWhenPolled("000100000000");
        x.run(2);
        same("granted in 25, waiting told in 25", "2 25 STATE0=1 GRANT0", marksAndTimes(x) + " " + wire(x));
        x.run(1);
        same("nothing is changed by it", "2 25", marksAndTimes(x));
        same("starting", "2", states(x));
        BlackoutStart y = stoppedWhenPolled("000100000000");
        y.run(1);
        y.want(0, false);
        y.run(1);
        same("granted in 25, idle told in 25", "2 25 STATE0=0 GRANT0", marksAndTimes(y) + " " + wire(y));
        y.run(1);
        same("nothing is changed by it", "2 25", marksAndTimes(y));
    }

    private static void tick3_state_ofAMark2WhoseTimeIsTwoBeforeChanges() {
        BlackoutStart x = of(ONE + "retry 20;patience 2;loss 010000000000;");
        x.run(5);
        same("polled in 3, waiting told in 4", "2 3 STATE0=1", marksAndTimes(x) + " " + wire(x));
        x.setFuse(8);
        x.run(1);
        same("heard in 5", "1 5", marksAndTimes(x));
    }

    private static void tick3_state_ofAMark3WhoseTimeIsOneBeforeChanges() {
        // polled in 3 when it was starting, it tells in 4 that it runs; RUNS is heard in 4, STATE in 5
        BlackoutStart x = of(ONE + "patience 2;");
        x.run(5);
        same("RUNS in 4", "3 4 STATE0=3", marksAndTimes(x) + " " + wire(x));
        x.run(1);
        same("STATE in 5", "3 5", marksAndTimes(x));
    }

    private static void tick3_state_tellsWhatWasWhenItWasSent() {
        BlackoutStart x = of(ONE + "retry 20;");
        x.run(2);
        x.want(0, false);
        x.run(5);
        same("idle", "STATE0=0", wire(x));
        x.want(0, true);
        same("still", "STATE0=0", wire(x));
        x.run(1);
        same("heard in 7 as idle, though it waits", "0 7 1", marksAndTimes(x) + " " + states(x));
    }

    private static void tick3_grant_isForWaitingOutletsAlone() {
        BlackoutStart x = of(ONE);
        x.run(2);
        x.want(0, false);
        x.run(1);
        same("idle stays idle", "0 0", states(x) + " " + x.outlet(0, 8));
    }

    private static void tick3_grant_ofOneThatWaitsAnew() {
        BlackoutStart x = of(ONE);
        x.run(2);
        x.want(0, false);
        x.want(0, true);
        x.run(1);
        same("it starts", "2 1", states(x) + " " + x.outlet(0, 8));
        same("and asks no more", 1, x.traffic(0, false));
    }

    private static void tick3_poll_isAnsweredInTheTickInWhichItIsReceived() {
        BlackoutStart x = of(ONE);
        x.run(25);
        same("sent in 24", "POLL0", wire(x));
        x.run(1);
        same("answered in 25", "STATE0=3", wire(x));
        x.run(1);
        same("once", "", wire(x));
    }

    private static void tick3_poll_isAnsweredOnceByEachOutlet() {
        BlackoutStart x = of("fuse 99;outlet a 3 9 5 20 5;outlet b 3 9 5 20 5;outlet c 3 9 5 20 5;");
        x.run(6);
        same("sent in 5", "POLL0 POLL1 POLL2", wire(x));
        x.run(1);
        same("answered in 6", "STATE0=2 STATE1=2 STATE2=2", wire(x));
        x.run(1);
        same("once", "", wire(x));
    }

    private static void tick3_poll_isAnsweredByIdleOutlets() {
        BlackoutStart x = of(ONE + "loss 000100000000;");
        x.run(24);
        x.want(0, false);
        x.run(1);
        same("sent in 24", "POLL0", wire(x));
        x.run(1);
        same("idle", "STATE0=0", wire(x));
    }

    // A TICK, 4: the outlets act

    private static void tick4_runs_ofTICKSFrom1To20() {
        for (int ticks = 1; ticks <= 20; ticks++) {
            BlackoutStart x = of("fuse 99;outlet a 3 9 5 " + ticks + " 5;patience 20;");
            x.run(2 + ticks);
            same("starting with none left", "2 0", states(x) + " " + x.outlet(0, 7));
            x.run(1);
            same("running", "3 RUNS0", states(x) + " " + wire(x).split(" ")[0]);
            same("since", 2 + ticks, x.outlet(0, 9));
        }
    }

    private static void tick4_order_runsGoneStateAsk() {
        // TICKS 3: started in 2, polled in 4, it runs in 5 and is polled by then
        BlackoutStart x = of("fuse 99;outlet a 3 9 5 3 5;patience 3;");
        x.run(5);
        same("polled in 4", "POLL0", wire(x));
        x.run(1);
        same("RUNS and the state behind it", "RUNS0 STATE0=3", wire(x));
        BlackoutStart y = of(ONE);
        y.run(9);
        y.want(0, false);
        y.want(0, true);
        y.run(1);
        same("GONE and ASK", "GONE0 ASK0", wire(y));
        BlackoutStart z = of(ONE + "retry 20;");
        z.run(25);
        z.want(0, false);
        z.want(0, true);
        z.run(1);
        same("GONE, STATE, ASK", "GONE0 STATE0=1 ASK0", wire(z));
    }

    private static void tick4_order_byTheNumbers() {
        BlackoutStart x = of("fuse 99;outlet a 3 9 5 2 1;outlet b 3 9 5 1 9;outlet c 3 9 5 2 5;");
        x.run(1);
        same("ASKs", "ASK0 ASK1 ASK2", wire(x));
        x.run(4);
        same("RUNS of b in 3, of a and c in 4", "RUNS0 RUNS2", wire(x));
    }

    private static void tick4_ask_onceWhenItBeginsToWaitThenRETRYTicksLater() {
        for (int retry = 1; retry <= 20; retry++) {
            BlackoutStart x = of("fuse 8;outlet a 3 9 5 1 5;retry " + retry + ";");
            x.run(retry);
            same("RETRY - 1 ticks ago", 1, x.traffic(0, false));
            x.run(1);
            same("RETRY ticks ago", 2, x.traffic(0, false));
            x.run(retry);
            same("and again", 3, x.traffic(0, false));
        }
    }

    private static void tick4_ask_notInTheTickInWhichItStarts() {
        BlackoutStart x = of(ONE + "retry 1;");
        x.run(3);
        same("ASKs of 0 and 1", 2, x.traffic(0, false));
    }

    private static void tick4_ask_atOnceBehindABlackout() {
        BlackoutStart x = of("fuse 8;outlet a 3 9 5 1 5;retry 20;");
        x.run(1);
        x.blackout(1);
        x.run(1);
        same("dark in 1", 1, x.traffic(0, false));
        x.run(1);
        same("in 2, though RETRY is 20", 2, x.traffic(0, false));
        x.run(19);
        same("RETRY counts from 2", 2, x.traffic(0, false));
        x.run(1);
        same("in 22", 3, x.traffic(0, false));
    }

    private static void tick4_gone_ofOneThatWasStoppedTwice() {
        BlackoutStart x = of(TWO);
        x.run(9);
        x.want(0, false);
        x.want(0, true);
        x.want(0, false);
        x.run(1);
        same("once", "GONE0", wire(x));
    }

    // A TICK, 5: the panel acts

    private static void tick5_poll_ofTheMark2AtLeastPATIENCETicksAgo() {
        for (int patience = 2; patience <= 20; patience++) {
            BlackoutStart x = of(ONE + "retry 20;patience " + patience + ";loss 010000000000000000000000;");
            x.run(1 + patience);
            same("PATIENCE - 1 ticks ago", "0 2 1", x.traffic(5, false) + " " + marksAndTimes(x));
            x.run(1);
            same("PATIENCE ticks ago", "1 2 " + (1 + patience), x.traffic(5, false) + " " + marksAndTimes(x));
        }
    }

    private static void tick5_poll_ofTheMark3AtLeast5PATIENCETicksAgo() {
        for (int patience = 3; patience <= 20; patience++) {
            BlackoutStart x = of(ONE + "patience " + patience + ";");
            x.run(4 + 5 * patience);
            same("5 * PATIENCE - 1 ticks ago", "0 3 4", x.traffic(5, false) + " " + marksAndTimes(x));
            x.run(1);
            same("5 * PATIENCE ticks ago", "1 3 " + (4 + 5 * patience), x.traffic(5, false) + " " + marksAndTimes(x));
        }
    }

    private static void tick5_poll_ofTheMark3WithPATIENCE2() {
        BlackoutStart x = of(ONE + "patience 2;");
        x.run(15);
        same("told in 5, 9 ticks ago", "1 3 5", x.traffic(5, false) + " " + marksAndTimes(x));
        x.run(1);
        same("10 ticks ago", "2 3 15", x.traffic(5, false) + " " + marksAndTimes(x));
    }

    private static void tick5_poll_againIfNothingIsHeard() {
        // GRANT and all POLLs are lost: POLLs in 5, 9, 13, 17
        BlackoutStart x = of(ONE + "retry 20;loss 011111111111;");
        int[] due = {0, 0, 0, 0, 0, 1, 1, 1, 1, 2, 2, 2, 2, 3};
        for (int sent : due) {
            x.run(1);
            same("POLLs in " + (x.count(2) - 1), sent, x.traffic(5, false));
        }
    }

    private static void tick5_poll_neverOfTheMarks0And1() {
        BlackoutStart x = of("fuse 8;outlet a 3 9 5 1 5;outlet b 3 9 5 1 5;off b;patience 2;");
        x.run(200);
        same("none", "10 0", marks(x) + " " + x.traffic(5, false));
    }

    private static void tick5_poll_goesBeforeGrant() {
        BlackoutStart x = of("fuse 99;outlet a 3 9 5 9 9;outlet b 3 9 5 20 5;outlet c 3 9 5 20 7;off a;");
        x.run(4);
        x.want(0, true);
        x.run(2);
        same("by the numbers, then GRANT", "POLL1 POLL2 GRANT0", wire(x));
    }

    private static void tick5_queue_byDescendingPriorityFrom9To0() {
        StringBuilder text = new StringBuilder("fuse 9999;");
        int[] priorities = {0, 9, 1, 8, 2, 7, 3, 6, 4, 5};
        for (int k = 0; k < 10; k++) {
            text.append("outlet ").append((char) ('a' + k)).append(" 3 9 5 1 ").append(priorities[k]).append(';');
        }
        BlackoutStart x = of(text.toString());
        x.run(2);
        same("GRANTs", "GRANT1 GRANT3 GRANT5 GRANT7 GRANT9 GRANT8 GRANT6 GRANT4 GRANT2 GRANT0", wire(x));
    }

    private static void tick5_queue_byNumbersWithoutALearnedOrder() {
        BlackoutStart x = of("fuse 99;outlet a 3 9 5 1 5;outlet b 3 9 5 1 5;outlet c 3 9 5 1 5;");
        x.run(2);
        same("GRANTs", "GRANT0 GRANT1 GRANT2", wire(x));
    }

    private static void tick5_queue_byPlacesInTheLearnedOrder() {
        BlackoutStart x = of("fuse 99;outlet a 3 9 5 3 5;outlet b 3 9 5 1 5;outlet c 3 9 5 2 5;");
        x.run(9);
        same("order", "1 2 0", order(x));
        x.blackout(1);
        x.run(3);
        same("GRANTs", "GRANT1 GRANT2 GRANT0", wire(x));
    }

    private static void tick5_queue_thoseWithoutAPlaceLastAndByTheirNumbers() {
        BlackoutStart x = of("fuse 99;outlet a 3 9 5 1 5;outlet b 3 9 5 1 5;outlet c 3 9 5 2 5;outlet d 3 9 5 1 5;"
                + "off a;off b;");
        x.run(9);
        same("order", "3 2", order(x));
        x.want(0, true);
        x.want(1, true);
        x.blackout(1);
        x.run(3);
        same("GRANTs", "GRANT3 GRANT2 GRANT0 GRANT1", wire(x));
    }

    private static void tick5_queue_priorityGoesBeforeTheOrder() {
        BlackoutStart x = of("fuse 99;outlet a 3 9 5 3 5;outlet b 3 9 5 1 5;");
        x.run(9);
        same("order", "1 0", order(x));
        x.setPriority(0, 6);
        x.blackout(1);
        x.run(3);
        same("GRANTs", "GRANT0 GRANT1", wire(x));
    }

    private static void tick5_grant_theFuseReachedAndPassedByOne() {
        BlackoutStart x = of("fuse 18;outlet a 3 9 5 1 5;outlet b 3 9 5 1 5;");
        x.run(2);
        same("9 + 9 of 18", "22 18", marks(x) + " " + x.load(2));
        BlackoutStart y = of("fuse 17;outlet a 3 9 5 1 5;outlet b 3 9 5 1 5;");
        y.run(2);
        same("9 + 9 of 17", "21 9", marks(y) + " " + y.load(2));
    }

    private static void tick5_grant_theFuseReachedAndPassedByOneAlone() {
        BlackoutStart x = of("fuse 9;outlet a 3 9 5 1 5;");
        x.run(2);
        same("9 of 9", "2", marks(x));
        BlackoutStart y = of("fuse 8;outlet a 3 9 5 1 5;");
        y.run(2);
        same("9 of 8", "1", marks(y));
    }

    private static void tick5_grant_besideWhatIsReservedForARunningOne() {
        BlackoutStart x = of("fuse 12;outlet a 3 9 5 1 5;outlet b 3 9 5 1 5;");
        x.run(4);
        same("a runs, which is not known: 9 + 9 of 12", "21", marks(x));
        x.run(1);
        same("known: 3 + 9 of 12", "32 12", marks(x) + " " + x.load(2));
        BlackoutStart y = of("fuse 11;outlet a 3 9 5 1 5;outlet b 3 9 5 1 5;");
        y.run(9);
        same("3 + 9 of 11", "31 3", marks(y) + " " + y.load(2));
    }

    private static void tick5_grant_byTheExpectedDraw() {
        BlackoutStart x = of("fuse 12;outlet a 3 9 5 1 5;outlet b 3 9 5 1 5;");
        x.run(20);
        same("both are learned", "5 5", expected(x));
        x.setFuse(10);
        x.blackout(1);
        x.run(3);
        same("5 + 5 of 10", "22 10", marks(x) + " " + x.load(2));
        x.setFuse(9);
        x.blackout(1);
        x.run(3);
        same("5 + 5 of 9", "21 5", marks(x) + " " + x.load(2));
    }

    private static void tick5_grant_oneThatIsPassedOverLetsTheNextOneThrough() {
        BlackoutStart x = of("fuse 15;outlet a 3 9 5 1 9;outlet b 3 7 5 1 8;outlet c 3 6 5 1 7;");
        x.run(2);
        same("9, not 7, but 6", "212 GRANT0 GRANT2", marks(x) + " " + wire(x));
    }

    private static void tick5_grant_withStrictThePanelEndsThere() {
        BlackoutStart x = of("fuse 15;outlet a 3 9 5 1 9;outlet b 3 7 5 1 8;outlet c 3 6 5 1 7;strict;");
        x.run(2);
        same("9, not 7", "211 GRANT0", marks(x) + " " + wire(x));
        BlackoutStart y = of("fuse 16;outlet a 3 9 5 1 9;outlet b 3 7 5 1 8;outlet c 3 6 5 1 7;strict;");
        y.run(2);
        same("9 and 7 of 16", "221 GRANT0 GRANT1", marks(y) + " " + wire(y));
    }

    private static void tick5_grant_withStrictOneThatNeedsAnotherIsPassedOver() {
        BlackoutStart x = of("fuse 15;outlet a 3 9 5 1 9;outlet b 3 7 5 1 8;outlet c 3 6 5 1 7;need b a;strict;");
        x.run(2);
        same("9, then 6", "212 GRANT0 GRANT2", marks(x) + " " + wire(x));
    }

    private static void tick5_need_theMark2IsNotEnough() {
        BlackoutStart x = of(TWO + "need b a;");
        x.run(4);
        same("a runs, which is not known", "3 21", x.outlet(0, 6) + " " + marks(x));
        x.run(1);
        same("known", "32", marks(x));
    }

    private static void tick5_need_eachOfThem() {
        BlackoutStart x = of("fuse 99;outlet a 3 9 5 1 5;outlet b 3 9 5 5 5;outlet c 3 9 5 1 5;need c a;need c b;");
        x.run(8);
        same("a is known to run, b is not", "321", marks(x));
        x.run(1);
        same("both", "332", marks(x));
    }

    private static void tick5_need_goesByTheMarkNotByTheState() {
        BlackoutStart x = of(TWO + "need b a;off b;loss 000100000000;");
        x.run(9);
        x.want(0, false);
        x.want(1, true);
        x.run(2);
        same("GONE of a is lost, b is granted", "0 32", x.outlet(0, 6) + " " + marks(x));
    }

    private static void tick5_need_ofOneThatIsIdleForEver() {
        BlackoutStart x = of(TWO + "need b a;off a;");
        x.run(200);
        same("never", "01 0", marks(x) + " " + x.traffic(4, false));
    }

    // A TICK, 6: the meter

    private static void tick6_meter_theLoadOfFUSEDoesNotTrip() {
        BlackoutStart x = of("fuse 9;outlet a 9 9 9 1 5;");
        x.run(9);
        same("9 of 9", "3 0 9", states(x) + " " + x.count(5) + " " + x.load(1));
    }

    private static void tick6_meter_theLoadPassedByOneTrips() {
        BlackoutStart x = of("fuse 9;outlet a 9 9 9 1 5;");
        x.run(9);
        x.setFuse(8);
        x.run(1);
        same("9 of 8", "1 1 9", states(x) + " " + x.count(5) + " " + x.load(1));
    }

    private static void tick6_meter_alsoWhenItIsStarting() {
        BlackoutStart x = of("fuse 9;outlet a 1 9 9 1 5;");
        x.run(2);
        x.setFuse(8);
        x.run(1);
        same("tripped in 2", "1 1 3 1", states(x) + " " + x.count(5) + " " + x.count(2) + " " + x.outlet(0, 8));
    }

    private static void tick6_meter_theBlackoutHas5TicksFromTheNewOne() {
        BlackoutStart x = of("fuse 9;outlet a 9 9 9 1 5;");
        x.run(9);
        x.setFuse(8);
        x.run(1);
        same("dark in 10", "10 0 0 10", x.count(2) + " " + x.count(3) + " " + marksAndTimes(x));
        same("until 15", 15, x.blackout(1));
        x.run(4);
        same("dark in 14", 0, x.count(3));
        x.run(1);
        same("power in 15", 1, x.count(3));
    }

    private static void tick6_meter_aTripAheadOfADarkTickOfTheText() {
        BlackoutStart x = of("fuse 9;outlet a 9 9 9 1 5;dark 10 1;");
        x.run(9);
        x.setFuse(8);
        x.run(1);
        same("the fuse's", "1 1", x.count(4) + " " + x.count(5));
        x.run(1);
        same("and the text's", "2 1", x.count(4) + " " + x.count(5));
        x.run(3);
        same("dark in 14", "14 0", x.count(2) + " " + x.count(3));
        x.run(1);
        same("power in 15", 1, x.count(3));
    }

    private static void tick6_meter_aTripInTheLastTick() {
        BlackoutStart x = of("fuse 9;outlet a 9 9 9 1 5;");
        runTo(x, 4999);
        x.setFuse(8);
        x.run(1);
        same("dark in 5000", "5000 0 1", x.count(2) + " " + x.count(3) + " " + x.count(5));
    }

    private static void tick6_meter_noneInTheDark() {
        BlackoutStart x = of("fuse 9;outlet a 9 9 9 1 5;dark 9 1;");
        x.run(9);
        x.setFuse(8);
        x.run(1);
        same("no trip", "0 1", x.count(5) + " " + x.count(4));
    }

    private static void tick6_meter_aStartingOneHas1TickLessLeft() {
        BlackoutStart x = of("fuse 99;outlet a 3 9 5 3 5;");
        int[] left = {0, 0, 0, 2, 1, 0, 0};
        for (int due : left) {
            same("left in " + x.count(2), due, x.outlet(0, 7));
            x.run(1);
        }
    }
}
