import java.util.List;

/** The boundary cases of the promises 8 (count) to 20 (why): what there is. */
public final class Promise08To20EdgesTest extends Edge {
    /** a asks in 0, is granted in 1, starts in 2, runs in 3, which the panel knows in 4. */
    private static final String ONE = "fuse 99;outlet a 3 9 5 1 5;";
    /** b needs a; a asks in 0, is granted in 1, starts in 2, runs in 4; b is granted in 5, runs in 7. */
    private static final String PAIR = "fuse 100;outlet a 30 60 50 2 5;outlet b 20 40 35 1 5;need b a;";

    public static void main(String[] args) {
        runAll(Promise08To20EdgesTest.class);
    }

    private static String twelve() {
        StringBuilder text = new StringBuilder("fuse 9999;");
        for (char name = 'a'; name <= 'l'; name++) {
            text.append("outlet ").append(name).append(" 1 2 2 1 0;");
        }
        return text.toString();
    }

    private static String counts(BlackoutStart x) {
        StringBuilder told = new StringBuilder();
        for (int what = 0; what < 14; what++) {
            told.append(what == 0 ? "" : " ").append(x.count(what));
        }
        return told.toString();
    }

    // 8 count

    private static void promise8_count_from0To13() {
        same("of nothing", "0 0 0 1 0 0 0 0 0 1 3 4 0 0", counts(of("fuse 1;")));
        same("of what the text tells", "2 1 0 1 0 0 0 0 0 100 20 2 1 0", counts(of(PAIR + "strict;retry 20;patience 2;")));
    }

    private static void promise8_count_whatOutOfRangeThrows() {
        BlackoutStart x = of(PAIR);
        throwsArgument(x, () -> x.count(-1));
        throwsArgument(x, () -> x.count(14));
        throwsArgument(x, () -> x.count(LEAST));
        throwsArgument(x, () -> x.count(GREATEST));
    }

    private static void promise8_count_needsUpTo16() {
        StringBuilder text = new StringBuilder(twelve());
        for (char name = 'b'; name <= 'l'; name++) {
            text.append("need a ").append(name).append(";");
        }
        text.append("need b a;need b c;need c a;need c b;need l a;");
        same("needs", 16, of(text.toString()).count(1));
    }

    private static void promise8_count_theTickUpTo5000() {
        BlackoutStart x = of("fuse 1;");
        same("0", 0, x.count(2));
        runTo(x, 5000);
        same("5000", 5000, x.count(2));
    }

    private static void promise8_count_powerBeforeADarkTickOfTheText() {
        BlackoutStart x = of("fuse 1;dark 3 2;");
        x.run(3);
        same("in 3 it does not count yet", 1, x.count(3));
        x.run(1);
        same("dark in 4", 0, x.count(3));
        x.run(1);
        same("power in 5", 1, x.count(3));
    }

    private static void promise8_count_noDarknessIsSeenOfADarkTickOfLength1() {
        BlackoutStart x = of("fuse 1;dark 3 1;");
        x.run(3);
        same("power in 3", 1, x.count(3));
        x.run(1);
        same("power in 4", 1, x.count(3));
        same("a blackout", 1, x.count(4));
    }

    private static void promise8_count_powerAtTheEndsOfABlackout() {
        BlackoutStart x = of("fuse 1;");
        x.blackout(1);
        same("dark at once", 0, x.count(3));
        x.run(1);
        same("power behind it", 1, x.count(3));
        x.blackout(50);
        x.run(49);
        same("dark in the last tick", 0, x.count(3));
        x.run(1);
        same("power", 1, x.count(3));
    }

    private static void promise8_count_blackoutsOfEachOrigin() {
        BlackoutStart x = of("fuse 99;outlet a 3 9 5 1 5;dark 4 1;dark 4 1;");
        x.blackout(1);
        same("one by a call", 1, x.count(4));
        x.blackout(1);
        same("one in the dark", 2, x.count(4));
        x.run(4);
        same("not those of the tick 4 yet", 2, x.count(4));
        x.run(1);
        same("two by the text", 4, x.count(4));
        x.run(5);
        x.setFuse(1);
        x.run(1);
        same("one by the fuse", 5, x.count(4));
        same("tripped", 1, x.count(5));
    }

    private static void promise8_count_tripsOnly() {
        BlackoutStart x = of("fuse 99;outlet a 3 9 5 1 5;dark 9 1;");
        x.run(8);
        x.setFuse(3);
        x.run(1);
        same("a load of FUSE does not trip", 0, x.count(5));
        x.run(1);
        same("neither does a statement dark", 0, x.count(5));
        x.setFuse(99);
        x.run(5);
        x.setFuse(2);
        x.run(1);
        same("one more trips", 1, x.count(5));
        x.blackout(1);
        same("a call does not", 1, x.count(5));
    }

    private static void promise8_count_messagesToBeReceived() {
        BlackoutStart x = of(twelve() + "loss 000000000001;");
        same("none", 0, x.count(6));
        x.run(1);
        same("the lost one is not", 11, x.count(6));
        same("sent", 12, x.count(7));
        same("lost", 1, x.count(8));
        x.blackout(1);
        same("all are gone", 0, x.count(6));
        same("sent still", 12, x.count(7));
        same("gone ones are not lost", 1, x.count(8));
    }

    private static void promise8_count_sentAndLostOverBlackoutsAndTrips() {
        BlackoutStart x = of("fuse 9;outlet a 0 10 5 1 5;retry 1;loss 10;");
        x.run(10);
        x.blackout(5);
        x.run(15);
        same("sent", 20, x.count(7));
        same("lost", 10, x.count(8));
    }

    private static void promise8_count_fuseNow() {
        BlackoutStart x = of(PAIR);
        x.setFuse(9999);
        same("greatest", 9999, x.count(9));
        x.setFuse(1);
        same("least", 1, x.count(9));
    }

    private static void promise8_count_retryAndPatienceAtTheirEnds() {
        BlackoutStart x = of("fuse 1;retry 1;patience 2;");
        same("least RETRY", 1, x.count(10));
        same("least PATIENCE", 2, x.count(11));
        BlackoutStart y = of("fuse 1;retry 20;patience 20;");
        same("greatest RETRY", 20, y.count(10));
        same("greatest PATIENCE", 20, y.count(11));
    }

    private static void promise8_count_changesFrom0To8() {
        BlackoutStart x = of(PAIR);
        for (int k = 0; k <= 10; k++) {
            same("changes", Math.min(k, 8), x.count(13));
            x.setPriority(0, 1);
        }
        for (int k = 7; k >= 0; k--) {
            x.undo();
            same("changes", k, x.count(13));
        }
    }

    // 9 outlet

    private static void promise9_outlet_numberOutOfRangeThrows() {
        BlackoutStart x = of(PAIR);
        throwsIndex(x, () -> x.outlet(-1, 0));
        throwsIndex(x, () -> x.outlet(2, 0));
        throwsIndex(x, () -> x.outlet(LEAST, 0));
        throwsIndex(x, () -> x.outlet(GREATEST, 0));
        throwsIndex(new BlackoutStart(), () -> new BlackoutStart().outlet(0, 0));
        BlackoutStart y = of(twelve());
        same("the twelfth", 1, y.outlet(11, 0));
        throwsIndex(y, () -> y.outlet(12, 0));
    }

    private static void promise9_outlet_whatOutOfRangeThrows() {
        BlackoutStart x = of(PAIR);
        throwsArgument(x, () -> x.outlet(0, -1));
        throwsArgument(x, () -> x.outlet(1, 10));
        throwsArgument(x, () -> x.outlet(1, LEAST));
        throwsArgument(x, () -> x.outlet(1, GREATEST));
    }

    private static void promise9_outlet_theNumberIsLookedAtFirst() {
        BlackoutStart x = of(PAIR);
        throwsIndex(x, () -> x.outlet(2, 10));
        throwsIndex(x, () -> x.outlet(-1, -1));
    }

    private static void promise9_outlet_theLeastAndTheGreatestOfTheText() {
        BlackoutStart x = of("fuse 1;outlet a 0 0 0 1 0;outlet b 999 1999 1999 20 9;off b;");
        int[] least = {0, 0, 0, 1, 0, 1, 1, 0, 0, -1};
        int[] greatest = {999, 1999, 1999, 20, 9, 0, 0, 0, 0, -1};
        for (int what = 0; what < 10; what++) {
            same("least " + what, least[what], x.outlet(0, what));
            same("greatest " + what, greatest[what], x.outlet(1, what));
        }
    }

    private static void promise9_outlet_ticksLeftAre0UnlessItIsStarting() {
        BlackoutStart x = of("fuse 99;outlet a 3 9 5 20 5;");
        int[] due = {0, 0, 0, 19, 18, 17};
        for (int left : due) {
            same("left in " + x.count(2), left, x.outlet(0, 7));
            x.run(1);
        }
        x.want(0, false);
        same("idle", 0, x.outlet(0, 7));
        x.undo();
        x.blackout(1);
        same("waiting", 0, x.outlet(0, 7));
        x.undo();
        same("starting", 16, x.outlet(0, 7));
        x.run(16);
        same("none left", 0, x.outlet(0, 7));
        same("starting still", 2, x.outlet(0, 6));
        x.run(1);
        same("running", 3, x.outlet(0, 6));
        same("none left", 0, x.outlet(0, 7));
    }

    private static void promise9_outlet_startsAreCountedWhenTheyBegin() {
        BlackoutStart x = of("fuse 99;outlet a 3 9 5 20 5;");
        x.run(2);
        same("granted", 0, x.outlet(0, 8));
        x.run(1);
        same("starting", 1, x.outlet(0, 8));
        x.blackout(1);
        same("thrown back", 1, x.outlet(0, 8));
        x.run(4);
        same("again", 2, x.outlet(0, 8));
        same("it never ran", -1, x.outlet(0, 9));
    }

    private static void promise9_outlet_theTickInWhichItBecameRunning() {
        BlackoutStart x = of(ONE);
        x.run(3);
        same("NONE", BlackoutStart.NONE, x.outlet(0, 9));
        x.run(1);
        same("3", 3, x.outlet(0, 9));
        x.blackout(2);
        same("it stays", 3, x.outlet(0, 9));
        x.run(5);
        same("until it runs again", 3, x.outlet(0, 9));
        x.run(1);
        same("9", 9, x.outlet(0, 9));
        x.want(0, false);
        same("it stays", 9, x.outlet(0, 9));
    }

    private static void promise9_outlet_theTickInWhichItRanAndTripped() {
        BlackoutStart x = of("fuse 99;outlet a 9 9 9 1 5;");
        x.run(2);
        x.setFuse(9);
        x.run(1);
        x.setFuse(8);
        x.run(1);
        same("tripped", 1, x.count(5));
        same("waiting", 1, x.outlet(0, 6));
        same("it became running in 3", 3, x.outlet(0, 9));
    }

    // 10 known

    private static void promise10_known_numberOutOfRangeThrows() {
        BlackoutStart x = of(PAIR);
        throwsIndex(x, () -> x.known(-1, 0));
        throwsIndex(x, () -> x.known(2, 0));
        throwsIndex(x, () -> x.known(LEAST, 0));
        throwsIndex(x, () -> x.known(GREATEST, 0));
        BlackoutStart y = new BlackoutStart();
        throwsIndex(y, () -> y.known(0, 0));
    }

    private static void promise10_known_whatOutOfRangeThrows() {
        BlackoutStart x = of(PAIR);
        throwsArgument(x, () -> x.known(0, -1));
        throwsArgument(x, () -> x.known(1, 6));
        throwsArgument(x, () -> x.known(1, LEAST));
        throwsArgument(x, () -> x.known(1, GREATEST));
    }

    private static void promise10_known_theNumberIsLookedAtFirst() {
        BlackoutStart x = of(PAIR);
        throwsIndex(x, () -> x.known(2, 6));
        throwsIndex(x, () -> x.known(-1, -1));
    }

    private static void promise10_known_reservesNothingForTheMarks0And1() {
        BlackoutStart x = of("fuse 8;outlet a 3 9 5 1 5;");
        same("mark 0", "0 0", marks(x) + " " + reserved(x));
        x.run(2);
        same("mark 1", "1 0", marks(x) + " " + reserved(x));
    }

    private static void promise10_known_reservesTheExpectedDrawForTheMark2AndSteadyForTheMark3() {
        BlackoutStart x = of(ONE);
        x.run(2);
        same("INRUSH", "2 9 9", marks(x) + " " + expected(x) + " " + reserved(x));
        x.run(3);
        same("STEADY", "3 5 3", marks(x) + " " + expected(x) + " " + reserved(x));
        x.blackout(1);
        same("nothing", "0 5 0", marks(x) + " " + expected(x) + " " + reserved(x));
        x.run(3);
        same("PEAK", "2 5 5", marks(x) + " " + expected(x) + " " + reserved(x));
    }

    private static void promise10_known_peakIsLearnedWhenRunsIsReceived() {
        BlackoutStart x = of(ONE);
        x.run(4);
        same("running, not told", 0, x.known(0, 5));
        x.run(1);
        same("told", 1, x.known(0, 5));
        x.blackout(1);
        same("a blackout lets it stay", 1, x.known(0, 5));
    }

    private static void promise10_known_placeIsNoneWithoutOne() {
        BlackoutStart x = of(ONE);
        same("at first", BlackoutStart.NONE, x.known(0, 4));
        x.run(5);
        same("the first place", 0, x.known(0, 4));
        x.forget();
        same("forgotten", BlackoutStart.NONE, x.known(0, 4));
    }

    private static void promise10_known_placesUpToThe12th() {
        BlackoutStart x = of(twelve());
        x.run(5);
        for (int k = 0; k < 12; k++) {
            same("place of " + k, k, x.known(k, 4));
        }
    }

    private static void promise10_known_theTimeOfTheMark() {
        BlackoutStart x = of(ONE);
        int[] due = {0, 0, 1, 1, 1, 4, 4};
        for (int time : due) {
            same("time in " + x.count(2), time, x.known(0, 1));
            x.run(1);
        }
        x.blackout(9);
        same("of the blackout", 7, x.known(0, 1));
    }

    // 11 needs

    private static void promise11_needs_none() {
        BlackoutStart x = of(ONE);
        same("it needs", 0, x.needs(0, false));
        same("they need it", 0, x.needs(0, true));
    }

    private static void promise11_needs_allOthers() {
        StringBuilder text = new StringBuilder(twelve());
        for (char name = 'a'; name <= 'k'; name++) {
            text.append("need l ").append(name).append(";");
        }
        BlackoutStart x = of(text.toString());
        same("l needs", 2047, x.needs(11, false));
        same("they need a", 2048, x.needs(0, true));
        same("a needs", 0, x.needs(0, false));
        same("they need l", 0, x.needs(11, true));
    }

    private static void promise11_needs_inACircle() {
        BlackoutStart x = of("fuse 1;outlet a 0 0 0 1 0;outlet b 0 0 0 1 0;outlet c 0 0 0 1 0;need a b;need b c;need c a;");
        same("they need", "2 4 1", x.needs(0, false) + " " + x.needs(1, false) + " " + x.needs(2, false));
        same("they are needed by", "4 1 2", x.needs(0, true) + " " + x.needs(1, true) + " " + x.needs(2, true));
    }

    private static void promise11_needs_numberOutOfRangeThrows() {
        BlackoutStart x = of(PAIR);
        throwsIndex(x, () -> x.needs(-1, false));
        throwsIndex(x, () -> x.needs(2, true));
        throwsIndex(x, () -> x.needs(LEAST, true));
        throwsIndex(x, () -> x.needs(GREATEST, false));
        BlackoutStart y = new BlackoutStart();
        throwsIndex(y, () -> y.needs(0, true));
    }

    // 12 outletsWith

    private static void promise12_outletsWith_valueOutOfRangeThrows() {
        BlackoutStart x = of(PAIR);
        throwsArgument(x, () -> x.outletsWith(-1, false));
        throwsArgument(x, () -> x.outletsWith(-1, true));
        throwsArgument(x, () -> x.outletsWith(4, false));
        throwsArgument(x, () -> x.outletsWith(4, true));
        throwsArgument(x, () -> x.outletsWith(LEAST, true));
        throwsArgument(x, () -> x.outletsWith(GREATEST, false));
    }

    private static void promise12_outletsWith_noOutlets() {
        BlackoutStart x = new BlackoutStart();
        for (int value = 0; value < 4; value++) {
            same("state", 0, x.outletsWith(value, false));
            same("mark", 0, x.outletsWith(value, true));
        }
    }

    private static void promise12_outletsWith_all12() {
        BlackoutStart x = of(twelve());
        same("waiting", 4095, x.outletsWith(1, false));
        same("unknown", 4095, x.outletsWith(0, true));
        x.run(5);
        same("running", 4095, x.outletsWith(3, false));
        same("known to run", 4095, x.outletsWith(3, true));
        same("no other state", 0, x.outletsWith(0, false) | x.outletsWith(1, false) | x.outletsWith(2, false));
    }

    private static void promise12_outletsWith_eachOfTheFour() {
        BlackoutStart x = of("fuse 60;outlet a 1 9 9 1 9;outlet b 1 9 9 20 9;outlet c 1 99 9 1 9;outlet d 1 9 9 1 9;off d;");
        x.run(5);
        same("states", "3210", states(x));
        same("idle", 8, x.outletsWith(0, false));
        same("waiting", 4, x.outletsWith(1, false));
        same("starting", 2, x.outletsWith(2, false));
        same("running", 1, x.outletsWith(3, false));
        same("marks", "3210", marks(x));
        same("unknown", 8, x.outletsWith(0, true));
        same("asked", 4, x.outletsWith(1, true));
        same("granted", 2, x.outletsWith(2, true));
        same("known to run", 1, x.outletsWith(3, true));
    }

    // 13 rights

    private static void promise13_rights_none() {
        same("no outlets", 0, new BlackoutStart().rights());
        same("none wants", 0, of(ONE + "off a;").rights());
    }

    private static void promise13_rights_all12() {
        same("all", 4095, of(twelve()).rights());
    }

    private static void promise13_rights_inrushOfFuseAndOneMore() {
        BlackoutStart x = of("fuse 60;outlet a 1 60 1 1 0;outlet b 1 61 1 1 0;");
        same("60 have it", 1, x.rights());
        x.setFuse(61);
        same("61 have it", 3, x.rights());
        x.setFuse(59);
        same("none", 0, x.rights());
    }

    private static void promise13_rights_areOfInrushAlsoBehindLearning() {
        BlackoutStart x = of(ONE);
        x.run(9);
        x.setFuse(8);
        same("PEAK is learned", 5, x.known(0, 2));
        same("INRUSH is greater", 0, x.rights());
    }

    private static void promise13_rights_doNotAddUp() {
        same("60 each", 3, of("fuse 60;outlet a 60 60 60 1 0;outlet b 60 60 60 1 0;").rights());
    }

    private static void promise13_rights_ofACircle() {
        String three = "fuse 60;outlet a 1 1 1 1 0;outlet b 1 1 1 1 0;outlet c 1 1 1 1 0;";
        same("a circle of two", 4, of(three + "need a b;need b a;").rights());
        same("a circle of three", 0, of(three + "need a b;need b c;need c a;").rights());
        same("one that needs a circle", 0, of(three + "need a b;need b a;need c a;").rights());
        same("one that a circle needs", 4, of(three + "need a b;need b a;need a c;").rights());
    }

    private static void promise13_rights_ofAChainOf12AgainstTheNumbers() {
        StringBuilder text = new StringBuilder(twelve());
        for (char name = 'a'; name < 'l'; name++) {
            text.append("need ").append(name).append(' ').append((char) (name + 1)).append(';');
        }
        BlackoutStart x = of(text.toString());
        same("all", 4095, x.rights());
        x.want(11, false);
        same("its end wants no more", 0, x.rights());
        x.want(11, true);
        x.want(5, false);
        same("those behind it", 4032, x.rights());
    }

    private static void promise13_rights_inTheDark() {
        BlackoutStart x = of(PAIR);
        x.blackout(1);
        same("both", 3, x.rights());
    }

    // 14 load

    private static void promise14_load_whatOutOfRangeThrows() {
        BlackoutStart x = of(PAIR);
        throwsArgument(x, () -> x.load(-1));
        throwsArgument(x, () -> x.load(3));
        throwsArgument(x, () -> x.load(LEAST));
        throwsArgument(x, () -> x.load(GREATEST));
    }

    private static void promise14_load_ofNothing() {
        BlackoutStart x = new BlackoutStart();
        same("now, so far, reserved", "0 0 0", x.load(0) + " " + x.load(1) + " " + x.load(2));
    }

    private static void promise14_load_theGreatestSoFarStays() {
        BlackoutStart x = of(ONE);
        x.run(3);
        same("starting", "5 5 9", x.load(0) + " " + x.load(1) + " " + x.load(2));
        x.run(2);
        same("running", "3 5 3", x.load(0) + " " + x.load(1) + " " + x.load(2));
        x.blackout(1);
        same("dark", "0 5 0", x.load(0) + " " + x.load(1) + " " + x.load(2));
        x.run(1);
        same("behind it", "0 5 0", x.load(0) + " " + x.load(1) + " " + x.load(2));
    }

    private static void promise14_load_theGreatestIsOfTheTicks() {
        BlackoutStart x = of("fuse 99;outlet a 3 9 5 1 5;outlet b 3 9 5 1 5;off b;");
        x.run(3);
        x.want(0, false);
        same("now none", "0 5", x.load(0) + " " + x.load(1));
    }

    private static void promise14_load_ofATripCounts() {
        BlackoutStart x = of(ONE);
        x.run(2);
        x.setFuse(1);
        x.run(1);
        same("tripped by 5", "0 5 1", x.load(0) + " " + x.load(1) + " " + x.count(5));
    }

    private static void promise14_load_isDifferentFromWhatIsReserved() {
        BlackoutStart x = of(ONE);
        x.run(3);
        x.want(0, false);
        same("idle, yet reserved", "0 9", x.load(0) + " " + x.load(2));
    }

    // 15 strain

    private static void promise15_strain_withoutALoadIs0() {
        same("new", 0.0, new BlackoutStart().strain());
        BlackoutStart x = of("fuse 1;outlet a 0 0 0 1 0;");
        x.run(9);
        same("a load of 0", 0.0, x.strain());
    }

    private static void promise15_strain_isADouble() {
        BlackoutStart x = of(ONE);
        x.run(3);
        same("5 of 99", 5.0 / 99.0, x.strain());
        x.setFuse(5);
        same("1", 1.0, x.strain());
        x.setFuse(1);
        same("FUSE 1", 5.0, x.strain());
        x.setFuse(9999);
        same("FUSE 9999", 5.0 / 9999.0, x.strain());
    }

    // 16 message

    private static void promise16_message_withoutOneThrows() {
        BlackoutStart x = of(PAIR);
        throwsIndex(x, () -> x.message(0, 0));
        throwsIndex(x, () -> x.message(0, 3));
        BlackoutStart y = new BlackoutStart();
        throwsIndex(y, () -> y.message(0, 0));
    }

    private static void promise16_message_indexOutOfRangeThrows() {
        BlackoutStart x = of(PAIR);
        x.run(1);
        same("the last", 1, x.message(1, 1));
        throwsIndex(x, () -> x.message(2, 0));
        throwsIndex(x, () -> x.message(-1, 0));
        throwsIndex(x, () -> x.message(LEAST, 0));
        throwsIndex(x, () -> x.message(GREATEST, 0));
    }

    private static void promise16_message_whatOutOfRangeThrows() {
        BlackoutStart x = of(PAIR);
        x.run(1);
        throwsArgument(x, () -> x.message(0, -1));
        throwsArgument(x, () -> x.message(1, 3));
        throwsArgument(x, () -> x.message(1, LEAST));
        throwsArgument(x, () -> x.message(1, GREATEST));
    }

    private static void promise16_message_theIndexIsLookedAtFirst() {
        BlackoutStart x = of(PAIR);
        x.run(1);
        throwsIndex(x, () -> x.message(2, 3));
        throwsIndex(x, () -> x.message(-1, -1));
    }

    private static void promise16_message_goneOnesAreNotThere() {
        BlackoutStart x = of(PAIR);
        x.run(1);
        x.blackout(1);
        throwsIndex(x, () -> x.message(0, 0));
    }

    private static void promise16_message_twelveOfThem() {
        BlackoutStart x = of(twelve());
        x.run(1);
        same("ASKs", "ASK0 ASK1 ASK2 ASK3 ASK4 ASK5 ASK6 ASK7 ASK8 ASK9 ASK10 ASK11", wire(x));
        throwsIndex(x, () -> x.message(12, 0));
    }

    /** Polled in 3, all tell in 4 that they run; that is heard in 5, so that they are polled in 15 again. */
    private static void promise16_message_moreThanOneOfEachOutlet() {
        BlackoutStart x = of(twelve() + "patience 2;retry 1;");
        x.run(16);
        same("POLLs in 15", 12, x.count(6));
        for (int k = 0; k < 12; k++) {
            x.want(k, false);
            x.want(k, true);
        }
        x.run(1);
        same("GONE, STATE and ASK of each", 36, x.count(6));
        same("the last", "0 11 -1", x.message(35, 0) + " " + x.message(35, 1) + " " + x.message(35, 2));
        throwsIndex(x, () -> x.message(36, 0));
    }

    private static void promise16_message_tellsTheStateInStateAlone() {
        BlackoutStart x = of("fuse 99;outlet a 3 9 5 18 5;patience 2;");
        x.run(5);
        same("POLL in 3, STATE in 4", "STATE0=2", wire(x));
        x.run(15);
        same("POLL in 19", "POLL0", wire(x));
        x.run(1);
        same("RUNS goes ahead of STATE", "RUNS0 STATE0=3", wire(x));
        x.want(0, false);
        x.run(1);
        same("GONE", "GONE0", wire(x));
    }

    private static void promise16_message_tellsTheStatesIdleAndWaiting() {
        BlackoutStart x = of("fuse 99;outlet a 3 9 5 20 5;patience 2;retry 20;");
        x.run(2);
        x.want(0, false);
        x.run(3);
        same("idle", "STATE0=0", wire(x));
        BlackoutStart y = of("fuse 99;outlet a 3 9 5 20 5;patience 2;retry 20;loss 010000000000;");
        y.run(5);
        same("waiting", "STATE0=1", wire(y));
    }

    // 17 traffic

    private static void promise17_traffic_kindOutOfRangeThrows() {
        BlackoutStart x = of(PAIR);
        throwsArgument(x, () -> x.traffic(-1, false));
        throwsArgument(x, () -> x.traffic(-1, true));
        throwsArgument(x, () -> x.traffic(6, false));
        throwsArgument(x, () -> x.traffic(6, true));
        throwsArgument(x, () -> x.traffic(LEAST, false));
        throwsArgument(x, () -> x.traffic(GREATEST, true));
    }

    private static void promise17_traffic_ofNothing() {
        BlackoutStart x = new BlackoutStart();
        for (int kind = 0; kind < 6; kind++) {
            same("all", 0, x.traffic(kind, false));
            same("lost", 0, x.traffic(kind, true));
        }
    }

    private static void promise17_traffic_falseIsForAllTrueForTheLost() {
        BlackoutStart x = of("fuse 8;outlet a 3 9 5 20 5;retry 1;loss 001;");
        x.run(3);
        same("all", 3, x.traffic(0, false));
        same("lost", 1, x.traffic(0, true));
    }

    private static void promise17_traffic_isTheSumOfAll() {
        BlackoutStart x = busy();
        for (int k = 0; k < 60; k++) {
            x.run(3);
            x.want(k % 4, k % 3 > 0);
            int sent = 0;
            int lost = 0;
            for (int kind = 0; kind < 6; kind++) {
                sent += x.traffic(kind, false);
                lost += x.traffic(kind, true);
            }
            same("sent", x.count(7), sent);
            same("lost", x.count(8), lost);
        }
    }

    // 18 learned

    private static void promise18_learned_withoutAnOrderThrows() {
        BlackoutStart x = of(PAIR);
        throwsIndex(x, () -> x.learned(0));
        BlackoutStart y = new BlackoutStart();
        throwsIndex(y, () -> y.learned(0));
        x.run(9);
        x.forget();
        throwsIndex(x, () -> x.learned(0));
    }

    private static void promise18_learned_placeOutOfRangeThrows() {
        BlackoutStart x = of(PAIR);
        x.run(9);
        same("the last", 1, x.learned(1));
        throwsIndex(x, () -> x.learned(2));
        throwsIndex(x, () -> x.learned(-1));
        throwsIndex(x, () -> x.learned(LEAST));
        throwsIndex(x, () -> x.learned(GREATEST));
    }

    private static void promise18_learned_all12() {
        BlackoutStart x = of(twelve());
        x.run(5);
        same("by their numbers", "0 1 2 3 4 5 6 7 8 9 10 11", order(x));
        throwsIndex(x, () -> x.learned(12));
    }

    // 19 grants

    private static void promise19_grants_none() {
        same("no outlets", 0, new BlackoutStart().grants());
        same("no marks", 0, of(PAIR).grants());
    }

    private static void promise19_grants_whatFitsExactlyAndOneMore() {
        BlackoutStart x = of("fuse 8;outlet a 3 9 5 1 5;outlet b 3 9 5 1 5;");
        x.run(2);
        same("asked", "11", marks(x));
        same("9 is more than 8", 0, x.grants());
        x.setFuse(9);
        same("9 is FUSE", 1, x.grants());
        x.setFuse(17);
        same("18 is more than 17", 1, x.grants());
        x.setFuse(18);
        same("18 is FUSE", 3, x.grants());
    }

    private static void promise19_grants_inTheDarkThereIsNoMark1() {
        BlackoutStart x = of("fuse 8;outlet a 3 9 5 1 5;");
        x.run(2);
        x.setFuse(9);
        same("it would", 1, x.grants());
        x.blackout(1);
        same("none", 0, x.grants());
    }

    private static void promise19_grants_beforeADarkTickOfTheText() {
        BlackoutStart x = of("fuse 8;outlet a 3 9 5 1 5;dark 2 1;");
        x.run(2);
        x.setFuse(9);
        same("if it acted now", 1, x.grants());
        x.run(1);
        same("it did not", 0, x.traffic(4, false));
    }

    private static void promise19_grants_areSentByNoQuestion() {
        BlackoutStart x = of("fuse 8;outlet a 3 9 5 1 5;");
        x.run(2);
        x.setFuse(9);
        List<Object> before = Check.picture(x);
        x.grants();
        x.grants();
        samePicture("nothing changes", before, Check.picture(x));
    }

    private static void promise19_grants_areAlsoOfIdleOutletsWithTheMark1() {
        BlackoutStart x = of("fuse 8;outlet a 3 9 5 1 5;");
        x.run(2);
        x.setFuse(9);
        x.want(0, false);
        same("the panel does not know", 1, x.grants());
        same("why tells of the outlet", 1, x.why(0));
    }

    // 20 why

    private static void promise20_why_numberOutOfRangeThrows() {
        BlackoutStart x = of(PAIR);
        throwsIndex(x, () -> x.why(-1));
        throwsIndex(x, () -> x.why(2));
        throwsIndex(x, () -> x.why(LEAST));
        throwsIndex(x, () -> x.why(GREATEST));
        BlackoutStart y = new BlackoutStart();
        throwsIndex(y, () -> y.why(0));
    }

    private static void promise20_why_1BeforeAllOthers() {
        BlackoutStart x = of("fuse 1;outlet a 3 9 5 1 5;outlet b 3 9 5 1 5;need a b;off a;");
        same("idle", 1, x.why(0));
        x.blackout(1);
        same("idle in the dark", 1, x.why(0));
    }

    private static void promise20_why_2BeforeThe4th() {
        BlackoutStart x = of(ONE);
        x.run(3);
        same("starting, the mark is 2", 2, x.why(0));
        x.run(1);
        same("running, the mark is 2", 2, x.why(0));
        x.run(9);
        same("running, the mark is 3", 2, x.why(0));
    }

    private static void promise20_why_3BeforeThe4th() {
        BlackoutStart x = of(ONE);
        x.blackout(1);
        same("dark, the mark is 0", 3, x.why(0));
        x.run(1);
        same("power, the mark is 0", 4, x.why(0));
    }

    private static void promise20_why_3NotBeforeADarkTickOfTheText() {
        BlackoutStart x = of("fuse 99;outlet a 3 9 5 1 5;dark 1 2;");
        x.run(1);
        same("it does not count yet", 4, x.why(0));
        x.run(1);
        same("dark in its last tick", 3, x.why(0));
        x.run(1);
        same("power", 4, x.why(0));
    }

    private static void promise20_why_4OfTheMarks0And2And3() {
        BlackoutStart x = of("fuse 99;outlet a 3 9 5 1 5;outlet b 3 9 5 1 5;need a b;");
        same("mark 0, before what it needs", 4, x.why(0));
        BlackoutStart y = of(ONE);
        y.run(2);
        same("mark 2", "2 4", marks(y) + " " + y.why(0));
        y.run(4);
        y.want(0, false);
        y.want(0, true);
        same("mark 3", "3 4", marks(y) + " " + y.why(0));
    }

    private static void promise20_why_5BeforeThe6th() {
        BlackoutStart x = of("fuse 8;outlet a 3 9 5 1 5;outlet b 3 9 5 1 5;need a b;");
        x.run(2);
        same("it needs b, and 9 is greater than 8", 5, x.why(0));
        same("9 is greater than 8", 6, x.why(1));
    }

    private static void promise20_why_5UntilTheMarkIs3() {
        BlackoutStart x = of("fuse 99;outlet a 3 9 5 1 5;outlet b 3 9 5 1 5;need a b;");
        x.run(2);
        same("b has the mark 2", "12 5", marks(x) + " " + x.why(0));
        x.run(2);
        same("b runs, which the panel does not know", "12 5", marks(x) + " " + x.why(0));
        same("b is running", 3, x.outlet(1, 6));
    }

    private static void promise20_why_6IsOfOneAlone() {
        BlackoutStart x = of("fuse 8;outlet a 3 9 5 1 5;");
        x.run(2);
        same("9 of 8", 6, x.why(0));
        x.setFuse(9);
        same("9 of 9", 0, x.why(0));
    }

    private static void promise20_why_6IsOfTheExpectedDraw() {
        BlackoutStart x = of("fuse 99;outlet a 3 9 5 1 5;");
        x.run(6);
        x.blackout(1);
        x.setFuse(4);
        x.run(3);
        same("PEAK 5 of 4", 6, x.why(0));
        x.setFuse(5);
        same("PEAK 5 of 5", 0, x.why(0));
        x.forget();
        same("INRUSH 9 of 5", 6, x.why(0));
    }

    private static void promise20_why_7OtherOnesHaveReservedTooMuch() {
        BlackoutStart x = of("fuse 10;outlet a 3 9 5 20 9;outlet b 1 2 2 1 5;");
        x.run(2);
        same("9 + 2 of 10", "21 7", marks(x) + " " + x.why(1));
        x.setFuse(11);
        same("9 + 2 of 11", 0, x.why(1));
    }

    private static void promise20_why_7OtherOnesAreAhead() {
        BlackoutStart x = of("fuse 8;outlet a 3 9 5 20 4;outlet b 3 9 5 1 5;");
        x.run(2);
        x.setFuse(17);
        same("b is ahead", "11 7 0", marks(x) + " " + x.why(0) + " " + x.why(1));
        x.setFuse(18);
        same("both", "0 0", x.why(0) + " " + x.why(1));
    }

    private static void promise20_why_7BehindTheOneAtWhichAStrictPanelEnds() {
        BlackoutStart x = of("fuse 8;outlet a 3 9 5 20 9;outlet b 3 8 5 1 5;strict;");
        x.run(2);
        same("the panel ends at a", "11 6 7", marks(x) + " " + x.why(0) + " " + x.why(1));
        BlackoutStart y = of("fuse 7;outlet a 3 9 5 20 9;outlet b 3 8 5 1 5;");
        y.run(2);
        y.setFuse(8);
        same("a is passed over", "11 6 0", marks(y) + " " + y.why(0) + " " + y.why(1));
    }
}
