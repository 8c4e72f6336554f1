import java.util.List;

/** The boundary cases of the promises 25 (run) to 33 (restore), and of the section CHANGES. */
public final class Promise25To33EdgesTest extends Edge {
    /** a asks in 0, is granted in 1, starts in 2, runs in 3, which the panel knows in 4. */
    private static final String ONE = "fuse 99;outlet a 3 9 5 1 5;";
    private static final String TWO = "fuse 99;outlet a 3 9 5 1 5;outlet b 3 9 5 1 5;";

    public static void main(String[] args) {
        runAll(Promise25To33EdgesTest.class);
    }

    private static Check.Call saving(BlackoutStart x, int slot) {
        return () -> { x.save(slot); return "saved"; };
    }

    private static Check.Call restoring(BlackoutStart x, int slot) {
        return () -> { x.restore(slot); return "restored"; };
    }

    // 25 run

    private static void promise25_run_ticksFrom1To200() {
        BlackoutStart x = of(ONE);
        same("1", 0, x.run(1));
        same("tick", 1, x.count(2));
        same("200", 1, x.run(200));
        same("tick", 201, x.count(2));
        throwsArgument(x, () -> x.run(0));
        throwsArgument(x, () -> x.run(201));
        throwsArgument(x, () -> x.run(-1));
        throwsArgument(x, () -> x.run(LEAST));
        throwsArgument(x, () -> x.run(GREATEST));
    }

    private static void promise25_run_toTheTick5000() {
        BlackoutStart x = of(ONE);
        runTo(x, 4800);
        same("to 5000", 1, x.run(200));
        same("tick", 5000, x.count(2));
        throwsState(x, () -> x.run(1));
        throwsState(x, () -> x.run(200));
    }

    private static void promise25_run_beyondTheTick5000Throws() {
        BlackoutStart x = of(ONE);
        runTo(x, 4801);
        throwsState(x, () -> x.run(200));
        same("to 5000", 1, x.run(199));
    }

    private static void promise25_run_theTicksAreLookedAtFirst() {
        BlackoutStart x = of(ONE);
        runTo(x, 5000);
        throwsArgument(x, () -> x.run(201));
        throwsArgument(x, () -> x.run(0));
        throwsArgument(x, () -> x.run(GREATEST));
    }

    private static void promise25_run_returnsWhatIsRunningThen() {
        BlackoutStart x = of(TWO);
        same("starting is not running", 0, x.run(3));
        same("both", 2, x.run(1));
        x.setFuse(5);
        same("none behind a trip", 0, x.run(1));
        same("none without outlets", 0, new BlackoutStart().run(200));
    }

    private static void promise25_run_manyTicksAreAsManyTimesOne() {
        BlackoutStart x = busy();
        x.run(60);
        BlackoutStart y = busy();
        for (int k = 0; k < 60; k++) {
            y.run(1);
        }
        samePicture("all but the changes", pictureButChanges(x), pictureButChanges(y));
        same("changes", "1 8", x.count(13) + " " + y.count(13));
    }

    // 26 blackout

    private static void promise26_blackout_ticksFrom1To50() {
        BlackoutStart x = of(ONE);
        same("1", 1, x.blackout(1));
        same("50", 50, x.blackout(50));
        throwsArgument(x, () -> x.blackout(0));
        throwsArgument(x, () -> x.blackout(51));
        throwsArgument(x, () -> x.blackout(-1));
        throwsArgument(x, () -> x.blackout(LEAST));
        throwsArgument(x, () -> x.blackout(GREATEST));
    }

    private static void promise26_blackout_isAheadOfAllThatIsDoneInTheTick() {
        BlackoutStart x = of(ONE);
        x.run(2);
        same("until 3", 3, x.blackout(1));
        same("the GRANT is gone at once", 0, x.count(6));
        x.run(1);
        same("nothing was done in 2", "1 3 1 0", states(x) + " " + x.count(2) + " " + x.count(3) + " " + x.outlet(0, 8));
    }

    private static void promise26_blackout_returnsTheLongerOnesEnd() {
        BlackoutStart x = of(ONE);
        same("until 7", 7, x.blackout(7));
        same("shorter", 7, x.blackout(6));
        same("as long", 7, x.blackout(7));
        same("longer", 8, x.blackout(8));
        x.run(3);
        same("as far", 8, x.blackout(5));
        same("farther by one", 9, x.blackout(6));
        same("each began", 6, x.count(4));
    }

    private static void promise26_blackout_withADarkTickOfTheText() {
        BlackoutStart x = of(ONE + "dark 4 9;");
        x.run(4);
        same("until 6", 6, x.blackout(2));
        same("one", 1, x.count(4));
        x.run(1);
        same("two", 2, x.count(4));
        same("until 13", 13, x.blackout(1));
    }

    private static void promise26_blackout_inTheLastTick() {
        BlackoutStart x = of(ONE);
        runTo(x, 5000);
        same("beyond the end", 5050, x.blackout(50));
        same("waiting", "1", states(x));
        throwsState(x, () -> x.run(1));
    }

    private static void promise26_blackout_withoutOutlets() {
        same("until 50", 50, new BlackoutStart().blackout(50));
    }

    // 27 want

    private static void promise27_want_numberOutOfRangeThrows() {
        BlackoutStart x = of(TWO);
        throwsIndex(x, () -> x.want(-1, true));
        throwsIndex(x, () -> x.want(2, true));
        throwsIndex(x, () -> x.want(2, false));
        throwsIndex(x, () -> x.want(LEAST, false));
        throwsIndex(x, () -> x.want(GREATEST, false));
        BlackoutStart y = new BlackoutStart();
        throwsIndex(y, () -> y.want(0, true));
    }

    private static void promise27_want_returnsWhetherItDid() {
        BlackoutStart x = of(TWO + "off b;");
        same("a did", true, x.want(0, true));
        same("a did", true, x.want(0, false));
        same("a did not", false, x.want(0, false));
        same("a did not", false, x.want(0, true));
        same("b did not", false, x.want(1, true));
    }

    private static void promise27_want_ofOneThatDoesGoesOn() {
        BlackoutStart x = of("fuse 99;outlet a 3 9 5 9 5;retry 20;");
        x.run(1);
        x.want(0, true);
        x.run(1);
        same("waiting: it asked already", 1, x.traffic(0, false));
        x.run(1);
        x.want(0, true);
        same("starting", "2 8", states(x) + " " + x.outlet(0, 7));
        x.run(9);
        x.want(0, true);
        same("running", "3", states(x));
        x.run(1);
        same("no GONE", 0, x.traffic(2, false));
    }

    private static void promise27_want_ofOneThatDoesNotGoesOn() {
        BlackoutStart x = of(ONE + "off a;");
        x.want(0, false);
        x.run(5);
        same("idle, and nothing is sent", "0 0", states(x) + " " + x.count(7));
    }

    private static void promise27_want_asIfItBeganToWaitNow() {
        BlackoutStart x = of("fuse 8;outlet a 3 9 5 1 5;retry 20;");
        x.run(2);
        x.want(0, false);
        x.want(0, true);
        x.run(1);
        same("it asks at once", 2, x.traffic(0, false));
        x.run(19);
        same("RETRY counts from then", 2, x.traffic(0, false));
        x.run(1);
        same("20 ticks on", 3, x.traffic(0, false));
    }

    private static void promise27_want_aWaitingOneIsNotStopped() {
        BlackoutStart x = of("fuse 8;outlet a 3 9 5 1 5;");
        x.run(2);
        x.want(0, false);
        same("idle at once", "0", states(x));
        x.run(3);
        same("no GONE", 0, x.traffic(2, false));
        same("the panel does not know", 1, x.known(0, 0));
    }

    private static void promise27_want_aStartingOneIsStopped() {
        BlackoutStart x = of("fuse 99;outlet a 3 9 5 9 5;");
        x.run(3);
        x.want(0, false);
        same("idle at once", "0 0 0", states(x) + " " + x.outlet(0, 7) + " " + x.load(0));
        same("not told yet", "", wire(x));
        x.run(1);
        same("told", "GONE0", wire(x));
        x.run(9);
        same("told once", 1, x.traffic(2, false));
        same("it does not run", -1, x.outlet(0, 9));
    }

    private static void promise27_want_aRunningOneIsStopped() {
        BlackoutStart x = of(ONE);
        x.run(9);
        x.want(0, false);
        same("idle at once", "0 0", states(x) + " " + x.load(0));
        x.run(1);
        same("told", "GONE0", wire(x));
        same("mark", "3", marks(x));
        x.run(1);
        same("known", "0 10", marks(x) + " " + times(x));
    }

    private static void promise27_want_aStoppedOneThatWantsAgainTellsBoth() {
        BlackoutStart x = of(ONE);
        x.run(9);
        x.want(0, false);
        x.want(0, true);
        x.want(0, false);
        x.want(0, true);
        same("waiting", "1", states(x));
        x.run(1);
        same("GONE once, then ASK", "GONE0 ASK0", wire(x));
    }

    private static void promise27_want_inTheDarkNothingIsStopped() {
        BlackoutStart x = of(ONE);
        x.run(9);
        x.blackout(3);
        x.want(0, false);
        same("idle", "0", states(x));
        x.run(9);
        same("no GONE", 0, x.traffic(2, false));
        x.want(0, true);
        x.blackout(3);
        same("waiting", "1", states(x));
        x.run(4);
        same("ASK", "ASK0", wire(x));
    }

    // 28 setFuse

    private static void promise28_setFuse_from1To9999() {
        BlackoutStart x = of(ONE);
        same("99 before", 99, x.setFuse(1));
        same("1 before", 1, x.setFuse(9999));
        same("9999 before", 9999, x.setFuse(9999));
        throwsArgument(x, () -> x.setFuse(0));
        throwsArgument(x, () -> x.setFuse(10000));
        throwsArgument(x, () -> x.setFuse(-1));
        throwsArgument(x, () -> x.setFuse(LEAST));
        throwsArgument(x, () -> x.setFuse(GREATEST));
    }

    private static void promise28_setFuse_belowTheLoadTripsInTheNextTick() {
        BlackoutStart x = of(ONE);
        x.run(9);
        x.setFuse(2);
        same("not yet", "3 0 1", states(x) + " " + x.count(5) + " " + x.count(3));
        x.run(1);
        same("now", "1 1 0", states(x) + " " + x.count(5) + " " + x.count(3));
    }

    private static void promise28_setFuse_staysOverBlackouts() {
        BlackoutStart x = of(ONE);
        x.setFuse(42);
        x.blackout(3);
        x.run(9);
        same("42", 42, x.count(9));
    }

    // 29 setPriority

    private static void promise29_setPriority_from0To9() {
        BlackoutStart x = of(TWO);
        same("5 before", 5, x.setPriority(1, 0));
        same("0 before", 0, x.setPriority(1, 9));
        same("9 before", 9, x.setPriority(1, 9));
        same("the other stays", 5, x.outlet(0, 4));
        throwsArgument(x, () -> x.setPriority(1, -1));
        throwsArgument(x, () -> x.setPriority(1, 10));
        throwsArgument(x, () -> x.setPriority(1, LEAST));
        throwsArgument(x, () -> x.setPriority(1, GREATEST));
    }

    private static void promise29_setPriority_numberOutOfRangeThrows() {
        BlackoutStart x = of(TWO);
        throwsIndex(x, () -> x.setPriority(-1, 5));
        throwsIndex(x, () -> x.setPriority(2, 5));
        throwsIndex(x, () -> x.setPriority(LEAST, 5));
        throwsIndex(x, () -> x.setPriority(GREATEST, 5));
        BlackoutStart y = new BlackoutStart();
        throwsIndex(y, () -> y.setPriority(0, 5));
    }

    private static void promise29_setPriority_theNumberIsLookedAtFirst() {
        BlackoutStart x = of(TWO);
        throwsIndex(x, () -> x.setPriority(2, 10));
        throwsIndex(x, () -> x.setPriority(-1, -1));
    }

    private static void promise29_setPriority_staysOverBlackouts() {
        BlackoutStart x = of(TWO);
        x.setPriority(1, 9);
        x.blackout(3);
        x.run(9);
        same("9", 9, x.outlet(1, 4));
        Texts.load(x, TWO);
        same("5 of the text", 5, x.outlet(1, 4));
    }

    // 30 forget

    private static void promise30_forget_nothing() {
        BlackoutStart x = of(TWO);
        same("none", 0, x.forget());
        same("a change", 1, x.count(13));
        same("without outlets", 0, new BlackoutStart().forget());
    }

    private static void promise30_forget_returnsTheLearnedDraws() {
        BlackoutStart x = of(TWO + "off b;");
        x.run(9);
        same("one", 1, x.forget());
        same("none again", 0, x.forget());
        x.want(1, true);
        x.run(9);
        same("b alone: a did not tell again", 1, x.forget());
    }

    private static void promise30_forget_all12() {
        StringBuilder text = new StringBuilder("fuse 9999;");
        for (char name = 'a'; name <= 'l'; name++) {
            text.append("outlet ").append(name).append(" 1 3 2 1 0;");
        }
        BlackoutStart x = of(text.toString());
        x.run(9);
        same("twelve", 12, x.forget());
        same("no order", "", order(x));
    }

    private static void promise30_forget_reservesInrushForGrantedOnesThen() {
        BlackoutStart x = of(ONE);
        x.run(9);
        x.blackout(1);
        x.run(3);
        same("granted by PEAK", "2 5", marks(x) + " " + reserved(x));
        x.forget();
        same("INRUSH", "2 9", marks(x) + " " + reserved(x));
    }

    private static void promise30_forget_mayReserveMoreThanFuse() {
        BlackoutStart x = of(TWO);
        x.run(20);
        x.setFuse(10);
        x.blackout(1);
        x.run(3);
        same("both fit by PEAK", "22 10", marks(x) + " " + x.load(2));
        x.forget();
        same("18 of 10", 18, x.load(2));
        x.run(1);
        same("they start all the same", "22 10 0", states(x) + " " + x.load(0) + " " + x.count(5));
    }

    private static void promise30_forget_reservesSteadyForRunningOnesStill() {
        BlackoutStart x = of(ONE);
        x.run(9);
        x.forget();
        same("STEADY", "3 9 3", marks(x) + " " + expected(x) + " " + reserved(x));
    }

    private static void promise30_forget_leavesMarksTimesAndOutlets() {
        BlackoutStart x = of(TWO + "off b;");
        x.run(9);
        String before = marks(x) + times(x) + states(x) + x.count(7) + x.load(0) + x.load(1);
        x.forget();
        same("as before", before, marks(x) + times(x) + states(x) + x.count(7) + x.load(0) + x.load(1));
    }

    private static void promise30_forget_leavesThePresentOrder() {
        BlackoutStart x = of("fuse 99;outlet a 3 9 5 3 5;outlet b 3 9 5 1 5;");
        x.run(9);
        same("b before a", "1 0", order(x));
        x.forget();
        same("forgotten", "", order(x));
        x.run(1);
        same("learned again in the next tick", "1 0", order(x));
        same("the draws are not", "9 9", expected(x));
    }

    private static void promise30_forget_inTheDarkTheOrderIsGoneForGood() {
        BlackoutStart x = of(TWO);
        x.run(9);
        x.blackout(2);
        same("it stays in the dark", "0 1", order(x));
        x.forget();
        x.run(5);
        same("not before they run", "", order(x));
        x.run(2);
        same("learned anew", "0 1", order(x));
    }

    // 31 undo, and CHANGES

    private static void promise31_undo_withoutAChangeThrows() {
        BlackoutStart x = of(ONE);
        throwsState(x, () -> x.undo());
        x.run(1);
        same("none left", 0, x.undo());
        throwsState(x, () -> x.undo());
        BlackoutStart y = new BlackoutStart();
        throwsState(y, () -> y.undo());
    }

    private static void promise31_undo_8AreKeptTheNinthDropsTheOldest() {
        BlackoutStart x = of(ONE);
        for (int fuse = 1; fuse <= 9; fuse++) {
            x.setFuse(fuse);
        }
        same("eight", 8, x.count(13));
        for (int left = 7; left >= 0; left--) {
            same("left", left, x.undo());
            same("FUSE", left + 1, x.count(9));
        }
        throwsState(x, () -> x.undo());
        same("the first change stays", 1, x.count(9));
    }

    private static void promise31_undo_all8() {
        BlackoutStart x = of(ONE);
        for (int fuse = 1; fuse <= 8; fuse++) {
            x.setFuse(fuse);
        }
        for (int left = 7; left >= 0; left--) {
            same("left", left, x.undo());
        }
        same("the text's", 99, x.count(9));
    }

    private static void promise31_undo_thenAnotherChange() {
        BlackoutStart x = of(ONE);
        for (int fuse = 1; fuse <= 20; fuse++) {
            x.setFuse(fuse);
        }
        x.undo();
        x.undo();
        same("18", 18, x.count(9));
        x.setFuse(50);
        same("seven", 7, x.count(13));
        x.undo();
        same("18 again", 18, x.count(9));
        x.setFuse(60);
        x.setFuse(61);
        same("eight", 8, x.count(13));
        for (int k = 0; k < 8; k++) {
            x.undo();
        }
        same("12", 12, x.count(9));
    }

    private static void promise31_undo_ofEachOfTheSixChanges() {
        BlackoutStart x = busy();
        x.run(9);
        Check.Call[] changes = {() -> x.run(1), () -> x.blackout(1), () -> x.want(0, false), () -> x.setFuse(1),
            () -> x.setPriority(0, 0), () -> x.forget()};
        for (Check.Call change : changes) {
            List<Object> before = Check.picture(x);
            int kept = x.count(13);
            change.answer();
            same("one more", kept + 1, x.count(13));
            same("one less", kept, x.undo());
            samePicture("as before", before, Check.picture(x));
        }
    }

    private static void promise31_undo_ofATrip() {
        BlackoutStart x = of(ONE);
        x.run(9);
        x.setFuse(2);
        List<Object> before = Check.picture(x);
        x.run(1);
        same("tripped", 1, x.count(5));
        x.undo();
        samePicture("not tripped", before, Check.picture(x));
    }

    private static void promise31_undo_ofChangesThatChangeNothing() {
        BlackoutStart x = of(ONE);
        x.want(0, true);
        x.setFuse(99);
        x.setPriority(0, 5);
        x.forget();
        same("four", 4, x.count(13));
        same("three", 3, x.undo());
    }

    private static void promise31_undo_callsThatThrowAreNotKept() {
        BlackoutStart x = of(ONE);
        x.run(1);
        Check.Call[] refused = {() -> x.run(0), () -> x.run(201), () -> x.blackout(0), () -> x.blackout(51),
            () -> x.want(1, false), () -> x.want(-1, true), () -> x.setFuse(0), () -> x.setFuse(10000),
            () -> x.setPriority(0, 10), () -> x.setPriority(1, 0)};
        for (Check.Call call : refused) {
            Check.answer(call);
            same("one", 1, x.count(13));
        }
        x.undo();
        same("the run is undone", 0, x.count(2));
    }

    private static void promise31_undo_runBeyond5000IsNotKept() {
        BlackoutStart x = of(ONE);
        runTo(x, 5000);
        int kept = x.count(13);
        throwsState(x, () -> x.run(1));
        same("as many", kept, x.count(13));
    }

    private static void promise31_undo_nothingElseIsAChange() {
        BlackoutStart x = of(ONE);
        x.run(1);
        x.save(0);
        Texts.put(x, "a");
        x.find();
        x.runsIn(0);
        x.allIn(3);
        x.peakIn(9, 1);
        x.sentIn(9, 1);
        x.grants();
        Check.answer(() -> x.load());
        same("one", 1, x.count(13));
        x.undo();
        same("undo is none", 0, x.count(13));
    }

    private static void promise31_undo_leavesBufferErrorAndSlots() {
        BlackoutStart x = of(ONE);
        Texts.put(x, "fuse 0;");
        Check.answer(() -> x.load());
        x.run(4);
        x.save(1);
        Texts.put(x, "a");
        x.undo();
        same("error", "2 5", x.errorCode() + " " + x.errorPosition());
        same("buffer", 0, x.find());
        x.restore(1);
        same("slot", 4, x.count(2));
    }

    private static void promise31_undo_goesOnAsItDidBefore() {
        BlackoutStart x = busy();
        BlackoutStart twin = busy();
        for (int k = 0; k < 50; k++) {
            x.run(7);
            x.blackout(3);
            x.undo();
            x.undo();
            x.want(0, false);
            x.want(1, false);
            x.run(4);
            x.undo();
            x.undo();
            x.undo();
            x.run(1);
            twin.run(1);
            samePicture("in " + k, pictureButChanges(twin), pictureButChanges(x));
        }
    }

    // 32 save

    private static void promise32_save_slots0And1() {
        BlackoutStart x = of(ONE);
        x.run(1);
        x.save(0);
        x.run(1);
        x.save(1);
        x.restore(0);
        same("slot 0", 1, x.count(2));
        x.restore(1);
        same("slot 1", 2, x.count(2));
    }

    private static void promise32_save_slotOutOfRangeThrows() {
        BlackoutStart x = of(ONE);
        throwsIndex(x, saving(x, -1));
        throwsIndex(x, saving(x, 2));
        throwsIndex(x, saving(x, LEAST));
        throwsIndex(x, saving(x, GREATEST));
        throwsNone(x, restoring(x, 0));
        throwsNone(x, restoring(x, 1));
    }

    private static void promise32_save_takesThePlaceOfWhatWasSaved() {
        BlackoutStart x = of(ONE);
        x.run(1);
        x.save(0);
        x.run(1);
        x.save(0);
        x.run(1);
        x.restore(0);
        same("the later one", 2, x.count(2));
    }

    private static void promise32_save_isNoChange() {
        BlackoutStart x = of(ONE);
        x.run(3);
        List<Object> before = Check.picture(x);
        x.save(0);
        samePicture("as before", before, Check.picture(x));
        same("the run is undone", 0, x.undo());
        same("tick", 0, x.count(2));
    }

    private static void promise32_save_isNotChangedByWhatComesThen() {
        BlackoutStart x = busy();
        x.run(15);
        x.save(0);
        List<Object> saved = pictureButChanges(x);
        x.run(50);
        x.want(0, false);
        x.forget();
        x.setFuse(1);
        x.setPriority(1, 9);
        x.blackout(50);
        x.undo();
        x.restore(0);
        samePicture("as saved", saved, pictureButChanges(x));
    }

    private static void promise32_save_withoutOutlets() {
        BlackoutStart x = new BlackoutStart();
        x.save(1);
        x.run(9);
        x.restore(1);
        same("tick", 0, x.count(2));
    }

    // 33 restore

    private static void promise33_restore_anEmptySlotThrows() {
        BlackoutStart x = of(ONE);
        throwsNone(x, restoring(x, 0));
        throwsNone(x, restoring(x, 1));
        x.save(1);
        throwsNone(x, restoring(x, 0));
        same("the other", "restored", restoring(x, 1).answer());
        BlackoutStart y = new BlackoutStart();
        throwsNone(y, restoring(y, 0));
    }

    private static void promise33_restore_slotOutOfRangeThrows() {
        BlackoutStart x = of(ONE);
        throwsIndex(x, restoring(x, -1));
        throwsIndex(x, restoring(x, 2));
        x.save(0);
        x.save(1);
        throwsIndex(x, restoring(x, -1));
        throwsIndex(x, restoring(x, 2));
        throwsIndex(x, restoring(x, 32));
        throwsIndex(x, restoring(x, LEAST));
        throwsIndex(x, restoring(x, GREATEST));
    }

    private static void promise33_restore_thatThrowsLeavesTheChanges() {
        BlackoutStart x = of(ONE);
        x.run(1);
        Check.answer(restoring(x, 0));
        Check.answer(restoring(x, 2));
        same("one", 1, x.count(13));
        same("none", 0, x.undo());
    }

    private static void promise33_restore_staysSaved() {
        BlackoutStart x = of(ONE);
        x.run(2);
        x.save(0);
        for (int k = 0; k < 3; k++) {
            x.run(5);
            x.restore(0);
            same("tick", 2, x.count(2));
        }
    }

    private static void promise33_restore_noChangeCanBeUndoneThen() {
        BlackoutStart x = of(ONE);
        x.save(0);
        x.run(1);
        x.run(1);
        x.restore(0);
        same("none", 0, x.count(13));
        throwsState(x, () -> x.undo());
        x.run(1);
        same("the next one can", 0, x.undo());
        throwsState(x, () -> x.undo());
    }

    private static void promise33_restore_leavesBufferAndError() {
        BlackoutStart x = of(ONE);
        x.save(0);
        Texts.put(x, "fuse 0;");
        Check.answer(() -> x.load());
        Texts.put(x, "a");
        x.restore(0);
        same("error", "2 5", x.errorCode() + " " + x.errorPosition());
        same("buffer", 0, x.find());
    }

    private static void promise33_restore_bringsEverythingElse() {
        BlackoutStart x = busy();
        x.want(3, false);
        x.run(12);
        x.want(0, false);
        x.setFuse(300);
        x.setPriority(2, 1);
        x.save(1);
        List<Object> saved = pictureButChanges(x);
        x.run(30);
        List<Object> later = pictureButChanges(x);
        x.want(0, true);
        x.forget();
        x.blackout(50);
        x.restore(1);
        samePicture("as saved", saved, pictureButChanges(x));
        x.run(30);
        samePicture("and it goes on so", later, pictureButChanges(x));
    }

    private static void promise33_restore_theTripsToo() {
        BlackoutStart x = of(ONE);
        x.run(9);
        x.save(0);
        x.setFuse(2);
        x.run(1);
        x.save(1);
        x.restore(0);
        same("not tripped", 0, x.count(5));
        x.restore(1);
        same("tripped", 1, x.count(5));
    }

    private static void promise33_restore_isEmptyBehindLoading() {
        BlackoutStart x = of(ONE);
        x.save(0);
        x.save(1);
        Texts.load(x, ONE);
        throwsNone(x, restoring(x, 0));
        throwsNone(x, restoring(x, 1));
    }

    private static void promise33_restore_isNotEmptyBehindAnErrorInLoading() {
        BlackoutStart x = of(ONE);
        x.run(3);
        x.save(0);
        Texts.put(x, "fuse 0;");
        Check.answer(() -> x.load());
        x.restore(0);
        same("tick", 3, x.count(2));
    }
}
