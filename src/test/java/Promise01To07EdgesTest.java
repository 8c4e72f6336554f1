import java.util.List;

/** The boundary cases of the promises 1 (a new object) to 7 (find). */
public final class Promise01To07EdgesTest extends Edge {
    private static final String TEXT = "fuse 50;outlet lamp 1 2 2 3 4;outlet pump 5 6 6 7 8;need pump lamp;";

    public static void main(String[] args) {
        runAll(Promise01To07EdgesTest.class);
    }

    private static int appendBlanks(BlackoutStart x) {
        return x.append(0x20202020, 0x20202020, 0x20202020, 0x20202020, 0x20202020);
    }

    private static void loadsNot(BlackoutStart x, String text) {
        Texts.put(x, text);
        same("load", "throws IllegalArgumentException", Check.answer(() -> x.load()));
    }

    private static void isEmpty(BlackoutStart x) {
        Check.index("truncate(1) of an empty buffer", x, () -> x.truncate(1));
        same("the next append", 20, x.append(0, 0, 0, 0, 0));
        x.truncate(0);
    }

    private static String errors(BlackoutStart x) {
        return x.errorCode() + " at " + x.errorPosition();
    }

    // 1 a new object

    private static void promise1_new_isAsLoadedFuse100() {
        samePicture("all that can be asked", Check.picture(of("fuse 100;")), Check.picture(new BlackoutStart()));
        same("FUSE", 100, new BlackoutStart().count(9));
        same("outlets", 0, new BlackoutStart().count(0));
    }

    private static void promise1_new_hasAnEmptyBuffer() {
        isEmpty(new BlackoutStart());
        BlackoutStart x = new BlackoutStart();
        loadsNot(x, "");
        same("error", "1 at 0", errors(x));
    }

    private static void promise1_new_goesOnWithoutOutlets() {
        BlackoutStart x = new BlackoutStart();
        same("run(200)", 0, x.run(200));
        same("blackout(50)", 250, x.blackout(50));
        same("forget", 0, x.forget());
        same("setFuse", 100, x.setFuse(1));
        same("allIn", 0, x.allIn(0));
        same("peakIn", 0, x.peakIn(500, 1));
        same("sentIn", 0, x.sentIn(500, 1));
        same("undo", 3, x.undo());
    }

    private static void promise1_new_objectsAreApart() {
        BlackoutStart x = new BlackoutStart();
        BlackoutStart y = new BlackoutStart();
        List<Object> before = Check.picture(y);
        Texts.load(x, TEXT);
        x.run(20);
        x.save(0);
        Texts.put(x, "lamp");
        samePicture("the other one", before, Check.picture(y));
        isEmpty(y);
        throwsNone(y, () -> { y.restore(0); return 0; });
    }

    // 2 append

    private static void promise2_append_theMostSignificantByteFirst() {
        BlackoutStart x = new BlackoutStart();
        same("length", 20, x.append(0x66757365, 0x2031323B, 0x6461726B, 0x20333420, 0x35203B20)); // fuse 12;dark 34 5 ;
        same("outlets", 0, x.load());
        same("FUSE", 12, x.count(9));
        x.run(35);
        same("dark in 34", 1, x.count(4));
        x.run(5);
        same("until 39", 1, x.count(3));
    }

    private static void promise2_append_bytesAbove127() {
        BlackoutStart x = new BlackoutStart();
        x.append(0x66757365, 0x203132BB, -1, LEAST, GREATEST);
        same("load", "throws IllegalArgumentException", Check.answer(() -> x.load()));
        same("a byte that begins no token", "1 at 7", errors(x));
    }

    private static void promise2_append_goesOnAtTheCut() {
        BlackoutStart x = new BlackoutStart();
        x.append(0x66757365, 0x20312020, 0, 0, 0);
        x.truncate(6);
        same("length", 26, x.append(0x32333B20, 0x20202020, 0x20202020, 0x20202020, 0x20202020));
        x.load();
        same("FUSE", 123, x.count(9));
    }

    private static void promise2_append_reaches900() {
        BlackoutStart x = new BlackoutStart();
        for (int k = 1; k <= 45; k++) {
            same("length", 20 * k, appendBlanks(x));
        }
    }

    private static void promise2_append_beyond900Throws() {
        BlackoutStart x = new BlackoutStart();
        for (int k = 1; k <= 45; k++) {
            appendBlanks(x);
        }
        throwsState(x, () -> appendBlanks(x));
        same("the length stays", 900, x.truncate(900));
        loadsNot(x, "");
    }

    private static void promise2_append_from880Reaches900From881Throws() {
        BlackoutStart x = new BlackoutStart();
        for (int k = 1; k <= 45; k++) {
            appendBlanks(x);
        }
        x.truncate(881);
        throwsState(x, () -> appendBlanks(x));
        same("the length stays", 881, x.truncate(881));
        x.truncate(880);
        same("900", 900, appendBlanks(x));
    }

    private static void promise2_append_thatThrowsLeavesTheBytes() {
        BlackoutStart x = new BlackoutStart();
        Texts.put(x, "fuse 33;" + " ".repeat(892));
        throwsState(x, () -> x.append(-1, -1, -1, -1, -1));
        same("load", 0, x.load());
        same("FUSE", 33, x.count(9));
    }

    private static void promise2_append_isNoChangeOfTheState() {
        BlackoutStart x = of(TEXT);
        List<Object> before = Check.picture(x);
        appendBlanks(x);
        samePicture("all else", before, Check.picture(x));
    }

    // 3 truncate

    private static void promise3_truncate_from0ToTheLength() {
        BlackoutStart x = new BlackoutStart();
        Texts.put(x, "fuse 77;x");
        same("the length", 9, x.truncate(9));
        same("one less", 8, x.truncate(8));
        x.load();
        same("FUSE", 77, x.count(9));
        Texts.put(x, "fuse 77;x");
        same("0", 0, x.truncate(0));
        isEmpty(x);
    }

    private static void promise3_truncate_beyondThrows() {
        BlackoutStart x = new BlackoutStart();
        Texts.put(x, "fuse 77;");
        throwsIndex(x, () -> x.truncate(-1));
        throwsIndex(x, () -> x.truncate(9));
        throwsIndex(x, () -> x.truncate(LEAST));
        throwsIndex(x, () -> x.truncate(GREATEST));
        same("the length stays", 8, x.truncate(8));
    }

    private static void promise3_truncate_ofAnEmptyBuffer() {
        BlackoutStart x = new BlackoutStart();
        same("0", 0, x.truncate(0));
        throwsIndex(x, () -> x.truncate(1));
        throwsIndex(x, () -> x.truncate(-1));
    }

    private static void promise3_truncate_ofAFullBuffer() {
        BlackoutStart x = new BlackoutStart();
        Texts.put(x, " ".repeat(900));
        throwsIndex(x, () -> x.truncate(901));
        same("900", 900, x.truncate(900));
        same("0", 0, x.truncate(0));
    }

    private static void promise3_truncate_bringsNothingBack() {
        BlackoutStart x = new BlackoutStart();
        Texts.put(x, "fuse 77;");
        x.truncate(4);
        throwsIndex(x, () -> x.truncate(5));
    }

    // 4 load

    private static void promise4_load_returnsFrom0To12() {
        same("none", 0, Texts.load(new BlackoutStart(), "fuse 1;"));
        StringBuilder text = new StringBuilder("fuse 1;");
        for (char name = 'a'; name <= 'l'; name++) {
            text.append("outlet ").append(name).append(" 0 0 0 1 0;");
        }
        same("twelve", 12, Texts.load(new BlackoutStart(), text.toString()));
    }

    private static void promise4_load_emptiesTheBuffer() {
        BlackoutStart x = of(TEXT);
        isEmpty(x);
        loadsNot(x, "fuse 0;");
        isEmpty(x);
    }

    private static void promise4_load_ofAnEmptyBufferThrows() {
        BlackoutStart x = of(TEXT);
        same("load", "throws IllegalArgumentException", Check.answer(() -> x.load()));
        same("error", "1 at 0", errors(x));
        same("outlets", 2, x.count(0));
    }

    private static void promise4_load_everythingBeginsAnew() {
        BlackoutStart x = busy();
        x.setPriority(0, 0);
        x.run(40);
        x.setFuse(31);
        x.want(1, false);
        x.run(9);
        BlackoutStart fresh = of(TEXT);
        Texts.load(x, TEXT);
        samePicture("all that can be asked", Check.picture(fresh), Check.picture(x));
        for (int k = 0; k < 40; k++) {
            x.run(1);
            fresh.run(1);
            samePicture("on and on", Check.picture(fresh), Check.picture(x));
        }
    }

    private static void promise4_load_noRuleOfAnEarlierTextStays() {
        String plain = "fuse 50;outlet a 9 9 9 1 1;outlet b 9 9 9 1 1;";
        String rules = "fuse 51;outlet a 1 1 1 1 1;outlet b 1 1 1 1 1;need a b;loss 1;retry 9;patience 9;strict;off a;off b;"
                + "dark 2 9;dark 3 3;";
        BlackoutStart fresh = of(plain);
        BlackoutStart x = of(rules);
        BlackoutStart y = new BlackoutStart();
        loadsNot(y, rules + "strict;");
        Texts.load(x, plain);
        Texts.load(y, plain);
        for (int k = 0; k < 20; k++) {
            samePicture("behind a right text", Check.picture(fresh), Check.picture(x));
            samePicture("behind a wrong text", pictureButErrors(fresh), pictureButErrors(y));
            fresh.run(1);
            x.run(1);
            y.run(1);
        }
    }

    private static void promise4_load_whatStandsOnceDoesSoInEachText() {
        String rules = "fuse 51;outlet a 1 1 1 1 1;loss 1;retry 9;patience 9;strict;dark 1 1;dark 1 1;dark 1 1;dark 1 1;";
        BlackoutStart x = of(rules);
        same("again", 1, Texts.load(x, rules));
        loadsNot(x, rules + "loss 1;");
        same("behind an error", 1, Texts.load(x, rules));
    }

    private static void promise4_load_whileItIsStarting() {
        BlackoutStart x = of("fuse 99;outlet a 3 9 5 20 5;");
        x.run(9);
        same("13 are left", 13, x.outlet(0, 7));
        Texts.load(x, TEXT);
        samePicture("none is left", Check.picture(of(TEXT)), Check.picture(x));
    }

    private static void promise4_load_messagesAndStopsAreGone() {
        BlackoutStart x = of(TEXT);
        x.run(20);
        x.want(0, false);
        x.want(1, false);
        Texts.load(x, TEXT);
        x.run(1);
        same("no GONE", "ASK0 ASK1", wire(x));
        Texts.load(x, TEXT);
        same("no messages", "", wire(x));
        x.run(1);
        same("the marks", "00", marks(x));
    }

    private static void promise4_load_tripsAndDarknessBeginAnew() {
        BlackoutStart x = of(TEXT);
        x.run(20);
        x.setFuse(1);
        x.run(1);
        same("tripped", 1, x.count(5));
        Texts.load(x, TEXT);
        samePicture("not tripped", Check.picture(of(TEXT)), Check.picture(x));
    }

    private static void promise4_load_ofTheSameTextBeginsAnew() {
        BlackoutStart x = of(TEXT);
        x.run(30);
        Texts.load(x, TEXT);
        samePicture("all that can be asked", Check.picture(of(TEXT)), Check.picture(x));
    }

    private static void promise4_load_emptiesSlotsAndChanges() {
        BlackoutStart x = of(TEXT);
        x.run(3);
        x.save(0);
        x.save(1);
        Texts.load(x, TEXT);
        throwsNone(x, () -> { x.restore(0); return 0; });
        throwsNone(x, () -> { x.restore(1); return 0; });
        throwsState(x, () -> x.undo());
    }

    private static void promise4_load_withAnErrorLeavesEverythingElse() {
        BlackoutStart x = busy();
        x.run(9);
        x.save(1);
        x.run(4);
        List<Object> before = pictureButErrors(x);
        loadsNot(x, "fuse 1;outlet lamp 1 2 2 3 4;off pump;");
        same("error", "4 at 33", errors(x));
        samePicture("all else", before, pictureButErrors(x));
        BlackoutStart twin = busy();
        twin.run(9);
        twin.run(4);
        twin.run(50);
        x.run(50);
        samePicture("it goes on", pictureButErrors(twin), pictureButErrors(x));
        same("three changes", 2, x.undo());
        x.restore(1);
        same("the slot", 9, x.count(2));
    }

    private static void promise4_load_withAnErrorLeavesTheNames() {
        BlackoutStart x = of(TEXT);
        loadsNot(x, "fuse 1;outlet door 1 2 2 3 4;off pump;");
        Texts.put(x, "pump");
        same("pump", 1, x.find());
        Texts.put(x, "door");
        throwsNone(x, () -> x.find());
    }

    // 5 errorCode and 6 errorPosition

    private static void promise5_errorCode_is0BeforeAnyCall() {
        same("code", 0, new BlackoutStart().errorCode());
        same("again", 0, new BlackoutStart().errorCode());
    }

    private static void promise6_errorPosition_isNoneBeforeAnyCall() {
        same("position", BlackoutStart.NONE, new BlackoutStart().errorPosition());
        same("NONE", -1, BlackoutStart.NONE);
    }

    private static void promise5_errorCode_from1To5() {
        BlackoutStart x = new BlackoutStart();
        String[] texts = {"", "fuse 0;", "fuse 1;outlet a 0 0 0 1 0;outlet a", "fuse 1;off a;", "fuse 1;strict;strict;"};
        for (int code = 1; code <= 5; code++) {
            loadsNot(x, texts[code - 1]);
            same("code", code, x.errorCode());
        }
    }

    private static void promise6_errorPosition_from0To900() {
        BlackoutStart x = new BlackoutStart();
        loadsNot(x, "1");
        same("the least", 0, x.errorPosition());
        loadsNot(x, " ".repeat(900));
        same("the greatest", 900, x.errorPosition());
    }

    private static void promise5And6_errors_areOfTheLatestLoad() {
        BlackoutStart x = of(TEXT);
        loadsNot(x, "fuse 0;");
        same("first", "2 at 5", errors(x));
        loadsNot(x, "fuse 1;off a;");
        same("second", "4 at 11", errors(x));
        Texts.load(x, "fuse 1;");
        same("third without one", "0 at -1", errors(x));
    }

    private static void promise5And6_errors_stayInAllOtherCalls() {
        BlackoutStart x = of(TEXT);
        x.run(1);
        x.save(0);
        loadsNot(x, "fuse 0;");
        x.load(0);
        x.undo();
        x.restore(0);
        x.blackout(1);
        x.run(9);
        Texts.put(x, "pump");
        x.find();
        Check.answer(() -> x.find());
        Check.answer(() -> x.truncate(1));
        same("errors", "2 at 5", errors(x));
    }

    // 7 find

    private static int find(BlackoutStart x, String name) {
        Texts.put(x, name);
        return x.find();
    }

    private static void findsNot(BlackoutStart x, String name) {
        Texts.put(x, name);
        Check.none("find " + name, x, () -> x.find());
        isEmpty(x);
    }

    private static void promise7_find_byteByByte() {
        BlackoutStart x = of(TEXT);
        same("lamp", 0, find(x, "lamp"));
        same("pump", 1, find(x, "pump"));
        for (String other : new String[] {"lam", "lampp", "lamq", "kamp", "Lamp", "lamp ", " lamp", "lamp;", "lamp\n", "la mp"}) {
            findsNot(x, other);
        }
        findsNot(x, "lamp" + (char) 0);
        findsNot(x, (char) 0 + "lamp");
        findsNot(x, "lam" + (char) ('p' + 128));
    }

    private static void promise7_find_namesOf1And8Letters() {
        BlackoutStart x = of("fuse 1;outlet abcdefgh 0 0 0 1 0;outlet h 0 0 0 1 0;outlet bcdefgh 0 0 0 1 0;");
        same("8", 0, find(x, "abcdefgh"));
        same("1", 1, find(x, "h"));
        same("7", 2, find(x, "bcdefgh"));
        findsNot(x, "abcdefghi");
        findsNot(x, "aabcdefgh");
        findsNot(x, "a");
        findsNot(x, "abcdefghabcdefgh");
    }

    private static void promise7_find_theTwelfth() {
        StringBuilder text = new StringBuilder("fuse 1;");
        for (char name = 'a'; name <= 'l'; name++) {
            text.append("outlet ").append(name).append(" 0 0 0 1 0;");
        }
        BlackoutStart x = of(text.toString());
        same("l", 11, find(x, "l"));
        findsNot(x, "m");
    }

    private static void promise7_find_withAnEmptyBufferThrows() {
        findsNot(of(TEXT), "");
        findsNot(new BlackoutStart(), "");
    }

    private static void promise7_find_withAFullBufferThrows() {
        findsNot(of(TEXT), "lamp".repeat(225));
        findsNot(of(TEXT), "lamp" + " ".repeat(896));
    }

    private static void promise7_find_withoutOutletsThrows() {
        findsNot(new BlackoutStart(), "a");
        findsNot(of("fuse 1;"), "fuse");
    }

    private static void promise7_find_emptiesTheBuffer() {
        BlackoutStart x = of(TEXT);
        find(x, "pump");
        isEmpty(x);
    }

    private static void promise7_find_isOfTheTextThatIsLoaded() {
        BlackoutStart x = of(TEXT);
        Texts.load(x, "fuse 1;outlet pump 0 0 0 1 0;");
        same("pump", 0, find(x, "pump"));
        findsNot(x, "lamp");
    }
}
