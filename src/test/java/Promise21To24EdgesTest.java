import java.util.List;

/** The boundary cases of the promises 21 (runsIn) to 24 (sentIn): what will be. */
public final class Promise21To24EdgesTest extends Edge {
    /** a asks in 0, is granted in 1, starts in 2, runs in 3, which the panel knows in 4. */
    private static final String ONE = "fuse 99;outlet a 3 9 5 1 5;";
    /** The ASKs of 0, 20, .. 420 are lost, that of 440 and its GRANT are not; a runs in 442 + 20. */
    private static final String LATE = "fuse 100;outlet a 1 1 1 20 0;retry 20;loss 111111111111111111111100;";

    public static void main(String[] args) {
        runAll(Promise21To24EdgesTest.class);
    }

    // 21 runsIn

    private static void promise21_runsIn_0IfItIsRunning() {
        BlackoutStart x = of(ONE);
        same("at first", 4, x.runsIn(0));
        x.run(3);
        same("a tick before", 1, x.runsIn(0));
        x.run(1);
        same("running", 0, x.runsIn(0));
        same("though the panel does not know", 2, x.known(0, 0));
    }

    private static void promise21_runsIn_0AlsoIfADarkTickFollows() {
        BlackoutStart x = of(ONE + "dark 4 50;");
        x.run(4);
        same("running now", 0, x.runsIn(0));
    }

    private static void promise21_runsIn_upTo500() {
        BlackoutStart x = of(LATE);
        same("462 and the tick itself", 463, x.runsIn(0));
        x.blackout(37);
        same("37 more", 500, x.runsIn(0));
    }

    private static void promise21_runsIn_501Throws() {
        BlackoutStart x = of(LATE);
        x.blackout(38);
        throwsNone(x, () -> x.runsIn(0));
        x.run(1);
        same("one tick less", 500, x.runsIn(0));
    }

    private static void promise21_runsIn_neverThrows() {
        BlackoutStart x = of("fuse 8;outlet a 3 9 5 1 5;outlet b 3 8 5 1 5;outlet c 0 0 0 1 5;need c a;off b;");
        throwsNone(x, () -> x.runsIn(0));
        throwsNone(x, () -> x.runsIn(1));
        throwsNone(x, () -> x.runsIn(2));
    }

    private static void promise21_runsIn_numberOutOfRangeThrows() {
        BlackoutStart x = of(ONE);
        throwsIndex(x, () -> x.runsIn(-1));
        throwsIndex(x, () -> x.runsIn(1));
        throwsIndex(x, () -> x.runsIn(LEAST));
        throwsIndex(x, () -> x.runsIn(GREATEST));
        BlackoutStart y = new BlackoutStart();
        throwsIndex(y, () -> y.runsIn(0));
    }

    private static void promise21_runsIn_theTwelfth() {
        StringBuilder text = new StringBuilder("fuse 9999;");
        for (char name = 'a'; name <= 'l'; name++) {
            text.append("outlet ").append(name).append(" 1 2 2 ").append(name - 'a' + 1).append(" 0;");
        }
        BlackoutStart x = of(text.toString());
        same("the first", 4, x.runsIn(0));
        same("the twelfth", 15, x.runsIn(11));
        throwsIndex(x, () -> x.runsIn(12));
    }

    private static void promise21_runsIn_throughDarkTicks() {
        BlackoutStart x = of(ONE + "dark 3 2;");
        same("3 is dark, 5 is the first with power", 9, x.runsIn(0));
        x.blackout(50);
        same("the dark tick of the text falls in the dark", 54, x.runsIn(0));
    }

    private static void promise21_runsIn_throughATrip() {
        BlackoutStart x = of("fuse 99;outlet a 3 90 80 1 5;outlet b 3 9 5 1 5;");
        x.run(2);
        x.setFuse(50);
        same("a trips in 2, b waits until 8", 12, x.count(2) + x.runsIn(1));
        same("no trip now", 0, x.count(5));
    }

    private static void promise21_runsIn_whatTripsInItsTickIsNotRunningBehindIt() {
        BlackoutStart x = of("fuse 99;outlet a 9 9 9 1 5;");
        x.run(3);
        x.setFuse(8);
        throwsNone(x, () -> x.runsIn(0));
        x.setFuse(9);
        same("9 of 9", 1, x.runsIn(0));
    }

    private static void promise21_runsIn_beyondTheTick5000() {
        BlackoutStart x = of(LATE + "off a;");
        runTo(x, 5000);
        x.want(0, true);
        x.blackout(37);
        same("500 ticks on", 500, x.runsIn(0));
        throwsState(x, () -> x.run(1));
        same("the tick", 5000, x.count(2));
    }

    // 22 allIn

    private static void promise22_allIn_0IfThereAreNoRights() {
        for (int how = 0; how < 4; how++) {
            same("no outlets", 0, new BlackoutStart().allIn(how));
            same("none wants", 0, of(ONE + "off a;").allIn(how));
            same("INRUSH is greater than FUSE", 0, of("fuse 8;outlet a 3 9 5 1 5;").allIn(how));
        }
    }

    private static void promise22_allIn_0IfAllAreRunning() {
        BlackoutStart x = of(ONE + "off a;");
        x.want(0, true);
        x.run(3);
        same("a tick before", 1, x.allIn(0));
        x.run(1);
        for (int how = 0; how < 4; how++) {
            same("running", 0, x.allIn(how));
        }
    }

    private static void promise22_allIn_onesWithoutARightAreNotAskedFor() {
        BlackoutStart x = of("fuse 99;outlet a 3 9 5 1 5;outlet b 3 100 5 1 5;outlet c 3 9 5 9 5;off c;");
        same("a alone", 4, x.allIn(0));
        x.want(2, true);
        same("a and c", 12, x.allIn(0));
    }

    private static void promise22_allIn_upTo500() {
        BlackoutStart x = of(LATE);
        x.blackout(37);
        same("500", 500, x.allIn(0));
        same("strict", 500, x.allIn(2));
        same("nothing learned", 500, x.allIn(3));
        same("without loss", 37 + 23, x.allIn(1));
    }

    private static void promise22_allIn_501Throws() {
        BlackoutStart x = of(LATE);
        x.blackout(38);
        throwsNone(x, () -> x.allIn(0));
        throwsNone(x, () -> x.allIn(2));
        throwsNone(x, () -> x.allIn(3));
        same("without loss", 38 + 23, x.allIn(1));
    }

    private static void promise22_allIn_howOutOfRangeThrows() {
        BlackoutStart x = of(ONE);
        throwsArgument(x, () -> x.allIn(-1));
        throwsArgument(x, () -> x.allIn(4));
        throwsArgument(x, () -> x.allIn(LEAST));
        throwsArgument(x, () -> x.allIn(GREATEST));
    }

    private static void promise22_allIn_howIsLookedAtFirst() {
        BlackoutStart x = of("fuse 18;outlet a 9 9 9 1 5;outlet b 10 10 10 1 5;");
        throwsNone(x, () -> x.allIn(0));
        throwsArgument(x, () -> x.allIn(4));
    }

    private static void promise22_allIn_allAtTheSameTimeAreNeeded() {
        BlackoutStart x = of("fuse 100;outlet a 60 60 60 1 5;outlet b 60 60 60 1 5;");
        same("a alone", 4, x.runsIn(0));
        throwsNone(x, () -> x.allIn(0));
        x.setFuse(119);
        throwsNone(x, () -> x.allIn(0));
        x.setFuse(120);
        same("both", 4, x.allIn(0));
    }

    private static void promise22_allIn_1LosesNoMessageFromNowOn() {
        BlackoutStart x = of("fuse 99;outlet a 3 9 5 1 5;loss 1;");
        throwsNone(x, () -> x.allIn(0));
        same("at once", 4, x.allIn(1));
        x.run(1);
        same("what was lost stays lost: ASK in 3", 6, x.allIn(1));
        x.run(2);
        same("ASK in 3", 4, x.allIn(1));
        same("all were lost", 1, x.count(8));
    }

    private static void promise22_allIn_1LosesMessagesInTheNextQuestionAgain() {
        BlackoutStart x = of("fuse 99;outlet a 3 9 5 1 5;loss 1;");
        same("none is lost", 4, x.allIn(1));
        throwsNone(x, () -> x.allIn(0));
        same("none is lost", 4, x.allIn(1));
        throwsNone(x, () -> x.runsIn(0));
        same("none is lost", 4, x.allIn(1));
        same("all are lost", 0, x.peakIn(9, 99));
        same("none is lost", 4, x.allIn(1));
        same("all are lost, ASKs in 0, 3 and 6", 3, x.sentIn(9, 3));
        x.run(1);
        same("in run(), too", 1, x.count(8));
    }

    private static void promise22_allIn_2IsStrictIfItIsNot() {
        // a does not fit beside c; b does, and without strict is granted ahead of a
        String text = "fuse 100;outlet a 10 80 80 1 5;outlet b 10 30 30 20 0;outlet c 10 30 30 1 9;";
        BlackoutStart loose = of(text);
        BlackoutStart strict = of(text + "strict;");
        same("not strict", loose.allIn(0), strict.allIn(2));
        same("strict", strict.allIn(0), loose.allIn(2));
        same("they are different", "26 29", loose.allIn(0) + " " + strict.allIn(0));
        same("it stays as it was", "0 1", loose.count(12) + " " + strict.count(12));
    }

    private static void promise22_allIn_3ForgetsTheDraws() {
        BlackoutStart x = of("fuse 100;outlet a 10 60 50 1 5;outlet b 10 60 50 1 5;");
        x.run(9);
        x.blackout(1);
        same("both at once", 5, x.allIn(0));
        same("one by one", 8, x.allIn(3));
        same("they are known still", "50 50", expected(x));
    }

    private static void promise22_allIn_3ForgetsTheOrder() {
        // c needs b, so that it is late if a, which takes long, goes ahead of b
        BlackoutStart x = of("fuse 100;outlet a 10 60 60 9 5;outlet b 10 60 60 2 6;outlet c 10 10 10 9 5;need c b;");
        x.run(40);
        same("b before a", "1 0 2", order(x));
        x.setPriority(1, 5);
        x.blackout(1);
        same("b is granted in 2, a and c in 6", 17, x.allIn(0));
        same("a is granted in 2, b in 13, c in 17", 28, x.allIn(3));
        same("it is known still", "1 0 2", order(x));
    }

    private static void promise22_allIn_rightsAreThoseOfNow() {
        BlackoutStart x = of(ONE);
        x.run(9);
        x.setFuse(5);
        same("it is running, without a right", 0, x.allIn(0));
        x.want(0, false);
        same("none", 0, x.allIn(0));
    }

    private static void promise22_allIn_beyondTheTick5000() {
        BlackoutStart x = of(LATE + "off a;");
        runTo(x, 5000);
        x.want(0, true);
        same("463 ticks on", 463, x.allIn(0));
        same("the tick", 5000, x.count(2));
    }

    // 23 peakIn

    private static void promise23_peakIn_ticksFrom1To500() {
        BlackoutStart x = of(LATE);
        same("1", 0, x.peakIn(1, 100));
        same("before it starts", 0, x.peakIn(442, 100));
        same("when it starts", 1, x.peakIn(443, 100));
        x.blackout(50);
        same("too few", 0, x.peakIn(492, 100));
        same("just enough", 1, x.peakIn(493, 100));
        same("500", 1, x.peakIn(500, 100));
        throwsArgument(x, () -> x.peakIn(0, 100));
        throwsArgument(x, () -> x.peakIn(501, 100));
        throwsArgument(x, () -> x.peakIn(-1, 100));
        throwsArgument(x, () -> x.peakIn(LEAST, 100));
        throwsArgument(x, () -> x.peakIn(GREATEST, 100));
    }

    private static void promise23_peakIn_fuseFrom1To9999() {
        BlackoutStart x = of("fuse 99;outlet a 1 1 1 1 5;outlet b 999 1999 1999 1 5;");
        same("1", 1, x.peakIn(9, 1));
        same("9999", 2000, x.peakIn(9, 9999));
        throwsArgument(x, () -> x.peakIn(9, 0));
        throwsArgument(x, () -> x.peakIn(9, 10000));
        throwsArgument(x, () -> x.peakIn(9, -1));
        throwsArgument(x, () -> x.peakIn(9, LEAST));
        throwsArgument(x, () -> x.peakIn(9, GREATEST));
        throwsArgument(x, () -> x.peakIn(0, 0));
    }

    private static void promise23_peakIn_theFuseIsReachedAndPassedByOne() {
        BlackoutStart x = of("fuse 1;outlet a 3 9 5 1 5;");
        same("9 of 8", 0, x.peakIn(9, 8));
        same("9 of 9", 5, x.peakIn(9, 9));
        same("FUSE stays", 1, x.count(9));
    }

    private static void promise23_peakIn_1IsTheNextTick() {
        BlackoutStart x = of(ONE);
        int[] due = {0, 0, 5, 3, 3};
        for (int load : due) {
            same("in " + x.count(2), load, x.peakIn(1, 99));
            x.run(1);
        }
    }

    private static void promise23_peakIn_theLoadSoFarIsNotAsked() {
        BlackoutStart x = of(ONE);
        x.run(9);
        same("so far 5, from now on 3", "5 3", x.load(1) + " " + x.peakIn(500, 99));
        same("it stays", 5, x.load(1));
    }

    private static void promise23_peakIn_ofATripAndBehindIt() {
        BlackoutStart x = of(ONE);
        x.run(9);
        same("the load that trips", 3, x.peakIn(1, 2));
        same("no more comes", 3, x.peakIn(500, 2));
        x.blackout(20);
        same("in the dark", 0, x.peakIn(20, 99));
        same("PEAK behind it", 5, x.peakIn(23, 99));
    }

    private static void promise23_peakIn_withoutOutletsIs0() {
        same("none", 0, new BlackoutStart().peakIn(500, 9999));
    }

    private static void promise23_peakIn_beyondTheTick5000() {
        BlackoutStart x = of(ONE + "off a;");
        runTo(x, 5000);
        x.want(0, true);
        same("5", 5, x.peakIn(500, 99));
        same("the tick", 5000, x.count(2));
    }

    // 24 sentIn

    private static void promise24_sentIn_ticksFrom1To500() {
        BlackoutStart x = of("fuse 8;outlet a 3 9 5 1 5;");
        same("1", 1, x.sentIn(1, 1));
        same("500", 500, x.sentIn(500, 1));
        throwsArgument(x, () -> x.sentIn(0, 3));
        throwsArgument(x, () -> x.sentIn(501, 3));
        throwsArgument(x, () -> x.sentIn(-1, 3));
        throwsArgument(x, () -> x.sentIn(LEAST, 3));
        throwsArgument(x, () -> x.sentIn(GREATEST, 3));
    }

    private static void promise24_sentIn_retryFrom1To20() {
        BlackoutStart x = of("fuse 8;outlet a 3 9 5 1 5;");
        same("RETRY 1", 41, x.sentIn(41, 1));
        same("RETRY 20 until 40", 2, x.sentIn(40, 20));
        same("RETRY 20 in 40", 3, x.sentIn(41, 20));
        same("RETRY stays", 3, x.count(10));
        throwsArgument(x, () -> x.sentIn(9, 0));
        throwsArgument(x, () -> x.sentIn(9, 21));
        throwsArgument(x, () -> x.sentIn(9, -1));
        throwsArgument(x, () -> x.sentIn(9, LEAST));
        throwsArgument(x, () -> x.sentIn(9, GREATEST));
        throwsArgument(x, () -> x.sentIn(0, 0));
    }

    private static void promise24_sentIn_retryCountsFromTheLatestAskOfNow() {
        BlackoutStart x = of("fuse 8;outlet a 3 9 5 1 5;");
        x.run(2);
        same("ASK in 0 was 2 ticks ago", 1, x.sentIn(1, 2));
        same("not 3", 0, x.sentIn(1, 3));
    }

    private static void promise24_sentIn_lostOnesIncluded() {
        BlackoutStart x = of("fuse 8;outlet a 3 9 5 1 5;loss 1;");
        same("all are lost", 10, x.sentIn(10, 1));
        same("none was sent", 0, x.count(7));
        same("none was lost", 0, x.count(8));
    }

    private static void promise24_sentIn_thoseSentBeforeAreNot() {
        BlackoutStart x = of("fuse 8;outlet a 3 9 5 1 5;");
        x.run(30);
        same("so far", 10, x.count(7));
        same("the next", 1, x.sentIn(1, 3));
    }

    private static void promise24_sentIn_goneOnesIncluded() {
        BlackoutStart x = of("fuse 8;outlet a 3 9 5 1 5;dark 1 3;");
        same("ASK in 0 is gone in 1", 1, x.sentIn(4, 3));
        same("and in 4", 2, x.sentIn(5, 3));
    }

    private static void promise24_sentIn_withoutOutletsIs0() {
        same("none", 0, new BlackoutStart().sentIn(500, 1));
    }

    private static void promise24_sentIn_beyondTheTick5000() {
        BlackoutStart x = of("fuse 8;outlet a 3 9 5 1 5;off a;");
        runTo(x, 5000);
        x.want(0, true);
        same("500", 500, x.sentIn(500, 1));
        same("the tick", 5000, x.count(2));
    }

    // nothing changes

    private static void promise21To24_ahead_nothingChanges() {
        BlackoutStart x = busy();
        BlackoutStart twin = busy();
        for (int k = 0; k < 40; k++) {
            x.run(1);
            twin.run(1);
            List<Object> before = Check.picture(x);
            for (int outlet = 0; outlet < 4; outlet++) {
                int asked = outlet;
                Check.answer(() -> x.runsIn(asked));
            }
            for (int how = 0; how < 4; how++) {
                int asked = how;
                Check.answer(() -> x.allIn(asked));
            }
            x.peakIn(500, 40);
            x.sentIn(500, 1);
            samePicture("in " + k, before, Check.picture(x));
            samePicture("nor what goes on", Check.picture(twin), Check.picture(x));
        }
    }

    private static void promise21To24_ahead_areWhatRunThenDoes() {
        for (int ticks = 1; ticks < 60; ticks++) {
            BlackoutStart x = busy();
            x.run(7);
            x.run(ticks);
            BlackoutStart y = busy();
            y.run(7);
            same("sent in " + ticks, x.count(7) - y.count(7), y.sentIn(ticks, y.count(10)));
            int peak = 0;
            for (int k = 0; k < ticks; k++) {
                peak = Math.max(peak, y.peakIn(1, y.count(9)));
                y.run(1);
            }
            BlackoutStart z = busy();
            z.run(7);
            same("peak in " + ticks, peak, z.peakIn(ticks, z.count(9)));
        }
    }
}
