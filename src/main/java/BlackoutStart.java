import java.util.Arrays;
import java.util.NoSuchElementException;

/**
 * Outlets that negotiate their start after a blackout with a panel, by messages of which some are
 * lost. The face checks what a caller gives and keeps the changes that can be undone; what happens
 * in a tick stands in World, what the text may say in Parser.
 */
public final class BlackoutStart {
    public static final int NONE = -1;

    private static final int MOST_TEXT = 900;
    private static final int APPENDED = 20;
    private static final int MOST_OUTLETS = 12;
    private static final int MOST_NEEDS = 16;
    private static final int MOST_DARKS = 4;
    private static final int MOST_SCRIPT = 24;
    private static final int MOST_NAME = 8;
    private static final int MOST_DIGITS = 4;
    private static final int MOST_FUSE = 9999;
    private static final int MOST_PRIORITY = 9;
    private static final int MOST_RETRY = 20;
    private static final int MOST_DARKNESS = 50;
    private static final int LAST_TICK = 5000;
    private static final int MOST_RUN = 200;
    private static final int MOST_AHEAD = 500;
    private static final int TRIP_DARKNESS = 5;
    private static final int SLOTS = 2;
    /** A power of two, so that a mask keeps places in the ring. */
    private static final int MOST_CHANGES = 8;

    private static final int IDLE = 0;
    private static final int WAITING = 1;
    private static final int STARTING = 2;
    private static final int RUNNING = 3;
    private static final int LAST_STATE = 3;

    private static final int UNKNOWN = 0;
    private static final int ASKED = 1;
    private static final int GRANTED = 2;
    private static final int KNOWN_TO_RUN = 3;

    private static final int ASK = 0;
    private static final int RUNS = 1;
    private static final int GONE = 2;
    private static final int STATE = 3;
    private static final int GRANT = 4;
    private static final int POLL = 5;
    private static final int KINDS = 6;
    /** No outlet has more than one message of a kind that is to be received. */
    private static final int MOST_MESSAGES = KINDS * MOST_OUTLETS;

    private static final int END = 0;
    private static final int WORD = 1;
    private static final int DIGITS = 2;
    private static final int SEMICOLON = 3;
    private static final int BLANK = 4;
    private static final int NO_TOKEN = 5;

    private static final int CANNOT_STAND = 1;
    private static final int OUT_OF_RANGE = 2;
    private static final int TOLD_ALREADY = 3;
    private static final int NO_OUTLET = 4;
    private static final int NO_ROOM = 5;

    private static final int LOSS_RULE = 1;
    private static final int RETRY_RULE = 2;
    private static final int PATIENCE_RULE = 4;
    private static final int STRICT_RULE = 8;

    private final Text text = new Text();
    private final Parser parser = new Parser(text);
    private final Plan plan = new Plan();
    private final World world = new World(plan);
    /** The copy on which is asked what will be. */
    private final World copy = new World(plan);
    private final History history = new History(plan);

    public BlackoutStart() {
        world.beginAnew();
    }

    public int append(int a, int b, int c, int d, int e) throws IllegalStateException {
        if (text.length + APPENDED > MOST_TEXT) {
            throw new IllegalStateException("the text is too long");
        }
        text.addBytes(a);
        text.addBytes(b);
        text.addBytes(c);
        text.addBytes(d);
        text.addBytes(e);
        return text.length;
    }

    public int truncate(int length) throws IndexOutOfBoundsException {
        if (length < 0 || length > text.length) {
            throw new IndexOutOfBoundsException("no such length");
        }
        text.length = length;
        return length;
    }

    public int load() throws IllegalArgumentException {
        boolean isRight = parser.readText();
        text.length = 0;
        if (!isRight) {
            throw new IllegalArgumentException("the text has an error");
        }
        plan.copyFrom(parser.draft);
        world.beginAnew();
        history.dropChanges();
        history.dropSaved();
        return plan.outlets;
    }

    public int errorCode() {
        return parser.errorCode;
    }

    public int errorPosition() {
        return parser.errorPosition;
    }

    public int find() throws NoSuchElementException {
        int found = plan.numberOf(text.nameAt(0, text.length));
        text.length = 0;
        if (found == NONE) {
            throw new NoSuchElementException("no outlet has this name");
        }
        return found;
    }

    public int count(int what) throws IllegalArgumentException {
        switch (what) {
            case 0: return plan.outlets;
            case 1: return plan.needsInAll();
            case 2: return world.tick;
            case 3: return world.isDark() ? 0 : 1;
            case 4: return world.blackouts;
            case 5: return world.trips;
            case 6: return world.wire.waiting;
            case 7: return world.wire.sentInAll;
            case 8: return world.wire.lostInAll();
            case 9: return world.fuse;
            case 10: return world.retry;
            case 11: return plan.patience;
            case 12: return world.isStrict ? 1 : 0;
            case 13: return history.changes;
            default: throw new IllegalArgumentException("no such count");
        }
    }

    public int outlet(int outlet, int what)
            throws IndexOutOfBoundsException, IllegalArgumentException {
        checkOutlet(outlet);
        Outlets outlets = world.outlets;
        switch (what) {
            case 0: return plan.steady[outlet];
            case 1: return plan.inrush[outlet];
            case 2: return plan.peak[outlet];
            case 3: return plan.ticks[outlet];
            case 4: return outlets.priority[outlet];
            case 5: return outlets.doesWant(outlet) ? 1 : 0;
            case 6: return outlets.state[outlet];
            case 7: return outlets.left[outlet];
            case 8: return outlets.starts[outlet];
            case 9: return outlets.ranAt[outlet];
            default: throw new IllegalArgumentException("no such report");
        }
    }

    public int known(int outlet, int what)
            throws IndexOutOfBoundsException, IllegalArgumentException {
        checkOutlet(outlet);
        Panel panel = world.panel;
        switch (what) {
            case 0: return panel.mark[outlet];
            case 1: return panel.time[outlet];
            case 2: return panel.expected[outlet];
            case 3: return panel.reservedFor(outlet);
            case 4: return panel.learnedOrder.place[outlet];
            case 5: return isIn(panel.learnedPeaks, outlet) ? 1 : 0;
            default: throw new IllegalArgumentException("no such report");
        }
    }

    public int needs(int outlet, boolean isBack) throws IndexOutOfBoundsException {
        checkOutlet(outlet);
        return isBack ? plan.neededBy(outlet) : plan.needed[outlet];
    }

    public int outletsWith(int value, boolean isMark) throws IllegalArgumentException {
        checkRange(value, 0, LAST_STATE);
        return isMark ? world.panel.markedWith(value) : world.outlets.inState(value);
    }

    public int rights() {
        return world.entitled();
    }

    public int load(int what) throws IllegalArgumentException {
        switch (what) {
            case 0: return world.drawOfAll();
            case 1: return world.peak;
            case 2: return world.panel.reservedForAll();
            default: throw new IllegalArgumentException("no such amount");
        }
    }

    public double strain() {
        return world.fuse < 1 ? 0.0 : (double) world.peak / (double) world.fuse;
    }

    public int message(int index, int what)
            throws IndexOutOfBoundsException, IllegalArgumentException {
        Wire wire = world.wire;
        if (index < 0 || index >= wire.waiting) {
            throw new IndexOutOfBoundsException("no such message");
        }
        switch (what) {
            case 0: return wire.kind[index];
            case 1: return wire.outlet[index];
            case 2: return wire.told[index];
            default: throw new IllegalArgumentException("no such report");
        }
    }

    public int traffic(int kind, boolean isLost) throws IllegalArgumentException {
        checkRange(kind, 0, KINDS - 1);
        return isLost ? world.wire.lost[kind] : world.wire.sent[kind];
    }

    public int learned(int place) throws IndexOutOfBoundsException {
        Order order = world.panel.learnedOrder;
        if (place < 0 || place >= order.size) {
            throw new IndexOutOfBoundsException("no such place");
        }
        return order.outlet[place];
    }

    public int grants() {
        return world.grantable();
    }

    public int why(int outlet) throws IndexOutOfBoundsException {
        checkOutlet(outlet);
        return world.reasonAgainst(outlet);
    }

    public int runsIn(int outlet) throws IndexOutOfBoundsException, NoSuchElementException {
        checkOutlet(outlet);
        copyState(world, copy);
        return ticksUntilRunning(1 << outlet);
    }

    public int allIn(int how) throws IllegalArgumentException, NoSuchElementException {
        checkRange(how, 0, 3);
        copyState(world, copy);
        if (how == 1) {
            copy.wire.isLossless = true;
        } else if (how == 2) {
            copy.isStrict = !copy.isStrict;
        } else if (how == 3) {
            copy.panel.forgetLearned();
        }
        return ticksUntilRunning(copy.entitled());
    }

    public int peakIn(int ticks, int fuse) throws IllegalArgumentException {
        checkRange(ticks, 1, MOST_AHEAD);
        checkRange(fuse, 1, MOST_FUSE);
        copyState(world, copy);
        copy.fuse = fuse;
        copy.peak = 0;
        copy.passTicks(ticks);
        return copy.peak;
    }

    public int sentIn(int ticks, int retry) throws IllegalArgumentException {
        checkRange(ticks, 1, MOST_AHEAD);
        checkRange(retry, 1, MOST_RETRY);
        copyState(world, copy);
        copy.retry = retry;
        copy.passTicks(ticks);
        return copy.wire.sentInAll - world.wire.sentInAll;
    }

    public int run(int ticks) throws IllegalArgumentException, IllegalStateException {
        checkRange(ticks, 1, MOST_RUN);
        if (world.tick + ticks > LAST_TICK) {
            throw new IllegalStateException("time ends before");
        }
        history.keep(world);
        world.passTicks(ticks);
        return Integer.bitCount(world.outlets.inState(RUNNING));
    }

    public int blackout(int ticks) throws IllegalArgumentException {
        checkRange(ticks, 1, MOST_DARKNESS);
        history.keep(world);
        world.beginBlackout(ticks);
        return world.darkUntil;
    }

    public boolean want(int outlet, boolean wants) throws IndexOutOfBoundsException {
        checkOutlet(outlet);
        history.keep(world);
        boolean didWant = world.outlets.doesWant(outlet);
        if (wants && !didWant) {
            world.outlets.beginToWait(outlet);
        } else if (!wants && didWant) {
            world.outlets.becomeIdle(outlet);
        }
        return didWant;
    }

    public int setFuse(int fuse) throws IllegalArgumentException {
        checkRange(fuse, 1, MOST_FUSE);
        history.keep(world);
        int before = world.fuse;
        world.fuse = fuse;
        return before;
    }

    public int setPriority(int outlet, int priority)
            throws IndexOutOfBoundsException, IllegalArgumentException {
        checkOutlet(outlet);
        checkRange(priority, 0, MOST_PRIORITY);
        history.keep(world);
        int before = world.outlets.priority[outlet];
        world.outlets.priority[outlet] = priority;
        return before;
    }

    public int forget() {
        history.keep(world);
        int hadLearned = Integer.bitCount(world.panel.learnedPeaks);
        world.panel.forgetLearned();
        return hadLearned;
    }

    public int undo() throws IllegalStateException {
        if (history.changes == 0) {
            throw new IllegalStateException("no change can be undone");
        }
        history.takeBack(world);
        return history.changes;
    }

    public void save(int slot) throws IndexOutOfBoundsException {
        checkSlot(slot);
        history.putIn(slot, world);
    }

    public void restore(int slot) throws IndexOutOfBoundsException, NoSuchElementException {
        checkSlot(slot);
        if (!history.isSaved(slot)) {
            throw new NoSuchElementException("nothing is saved there");
        }
        history.takeFrom(slot, world);
        history.dropChanges();
    }

    private void checkOutlet(int outlet) {
        if (outlet < 0 || outlet >= plan.outlets) {
            throw new IndexOutOfBoundsException("no such outlet");
        }
    }

    private static void checkSlot(int slot) {
        if (slot < 0 || slot >= SLOTS) {
            throw new IndexOutOfBoundsException("no such slot");
        }
    }

    private static void checkRange(int value, int low, int high) {
        if (value < low || value > high) {
            throw new IllegalArgumentException("out of range");
        }
    }

    /** Lets the copy go on until all outlets of the set are running. */
    private int ticksUntilRunning(int set) {
        for (int passed = 0; passed <= MOST_AHEAD; passed++) {
            if ((set & ~copy.outlets.inState(RUNNING)) == 0) {
                return passed;
            }
            copy.passTick();
        }
        throw new NoSuchElementException("not in the ticks that are asked");
    }

    private static void copyState(World from, World to) {
        if (from == null || to == null) {
            return;
        }
        to.tick = from.tick;
        to.darkUntil = from.darkUntil;
        to.fuse = from.fuse;
        to.retry = from.retry;
        to.isStrict = from.isStrict;
        to.blackouts = from.blackouts;
        to.trips = from.trips;
        to.peak = from.peak;
        to.outlets.copyFrom(from.outlets);
        to.panel.copyFrom(from.panel);
        to.wire.copyFrom(from.wire);
    }

    private static boolean isIn(int set, int outlet) {
        return (set >> outlet & 1) != 0;
    }

    private static void copyRow(int[] from, int[] to) {
        System.arraycopy(from, 0, to, 0, Math.min(from.length, to.length));
    }

    /** The text buffer. */
    private static final class Text {
        final byte[] bytes = new byte[MOST_TEXT];
        int length;

        void addBytes(int four) {
            for (int shift = 24; shift >= 0 && length < bytes.length; shift -= 8) {
                bytes[length] = (byte) (four >> shift);
                length++;
            }
        }

        int byteAt(int place) {
            return place < 0 || place >= length ? NONE : bytes[place] & 255;
        }

        /** The kind of the token that the byte may begin. */
        int kindAt(int place) {
            if (place < 0 || place >= length) {
                return END;
            }
            int sign = bytes[place];
            if (sign >= 'a' && sign <= 'z') {
                return WORD;
            }
            if (sign >= '0' && sign <= '9') {
                return DIGITS;
            }
            switch (sign) {
                case ';': return SEMICOLON;
                case 10: return BLANK;
                case 32: return BLANK;
                default: return NO_TOKEN;
            }
        }

        /** Packs a name into a number, to compare names at once; 0 if no name stands there. */
        long nameAt(int start, int size) {
            if (start < 0 || size > MOST_NAME || start + size > length) {
                return 0;
            }
            long name = 0;
            for (int k = 0; k < size; k++) {
                int sign = bytes[start + k];
                if (sign < 'a' || sign > 'z') {
                    return 0;
                }
                name = name << 8 | sign;
            }
            return name;
        }
    }

    /** Goes through the tokens of the text. */
    private static final class Tokens {
        final Text text;
        int kind;
        int start;
        int size;

        Tokens(Text text) {
            this.text = text;
        }

        void goToFirst() {
            start = 0;
            size = 0;
            goToNext();
        }

        void goToNext() {
            start += size;
            while (start < text.length && text.kindAt(start) == BLANK) {
                start++;
            }
            kind = text.kindAt(start);
            size = kind == END ? 0 : 1;
            boolean goesOn = kind == WORD || kind == DIGITS;
            while (goesOn && start + size < text.length && text.kindAt(start + size) == kind) {
                size++;
            }
        }

        boolean isWord(String word) {
            if (kind != WORD || size != word.length()) {
                return false;
            }
            for (int k = 0; k < word.length(); k++) {
                if (text.byteAt(start + k) != word.charAt(k)) {
                    return false;
                }
            }
            return true;
        }
    }

    /**
     * Reads the text from the left into a draft. The first error ends it: what would be read
     * behind it is passed over, so that no later error takes its place.
     */
    private static final class Parser {
        final Text text;
        final Tokens tokens;
        final Plan draft = new Plan();
        int errorCode;
        int errorPosition = NONE;
        private int toldRules;

        Parser(Text text) {
            this.text = text;
            this.tokens = new Tokens(text);
        }

        boolean readText() {
            errorCode = 0;
            errorPosition = NONE;
            toldRules = 0;
            draft.clear();
            tokens.goToFirst();
            readFuse();
            boolean mayOutlet = true;
            boolean mayNeed = true;
            for (int k = 0; k < MOST_TEXT && errorCode == 0 && tokens.kind != END; k++) {
                if (mayOutlet && tokens.isWord("outlet")) {
                    readOutlet();
                } else if (mayNeed && tokens.isWord("need")) {
                    mayOutlet = false;
                    readNeed();
                } else {
                    mayOutlet = false;
                    mayNeed = false;
                    readRule();
                }
                readSemicolon();
            }
            return errorCode == 0;
        }

        private void stopAt(int code) {
            if (errorCode == 0) {
                errorCode = code;
                errorPosition = tokens.start;
            }
        }

        private void readFuse() {
            if (!tokens.isWord("fuse")) {
                stopAt(CANNOT_STAND);
                return;
            }
            tokens.goToNext();
            draft.fuse = readNumber(1, MOST_FUSE);
            readSemicolon();
        }

        private void readOutlet() {
            int outlet = draft.outlets;
            if (outlet < 0 || outlet >= MOST_OUTLETS) {
                stopAt(NO_ROOM);
                return;
            }
            tokens.goToNext();
            draft.name[outlet] = readNewName();
            draft.steady[outlet] = readNumber(0, 999);
            draft.inrush[outlet] = readNumber(draft.steady[outlet], 1999);
            draft.peak[outlet] = readNumber(draft.steady[outlet], draft.inrush[outlet]);
            draft.ticks[outlet] = readNumber(1, 20);
            draft.priority[outlet] = readNumber(0, MOST_PRIORITY);
            draft.needed[outlet] = 0;
            draft.outlets = outlet + 1;
        }

        private void readNeed() {
            if (draft.needsInAll() >= MOST_NEEDS) {
                stopAt(NO_ROOM);
                return;
            }
            tokens.goToNext();
            int needy = readOutletName();
            if (errorCode == 0) {
                tokens.goToNext();
            }
            int needed = readOutletName();
            if (errorCode != 0 || needy == NONE || needed == NONE) {
                return;
            }
            if (needed == needy || isIn(draft.needed[needy], needed)) {
                stopAt(TOLD_ALREADY);
                return;
            }
            draft.needed[needy] |= 1 << needed;
            tokens.goToNext();
        }

        private void readRule() {
            if (tokens.isWord("loss")) {
                if (passOnce(LOSS_RULE)) {
                    readScript();
                }
            } else if (tokens.isWord("retry")) {
                if (passOnce(RETRY_RULE)) {
                    draft.retry = readNumber(1, MOST_RETRY);
                }
            } else if (tokens.isWord("patience")) {
                if (passOnce(PATIENCE_RULE)) {
                    draft.patience = readNumber(2, 20);
                }
            } else if (tokens.isWord("strict")) {
                draft.isStrict = passOnce(STRICT_RULE);
            } else if (tokens.isWord("off")) {
                readOff();
            } else if (tokens.isWord("dark")) {
                readDark();
            } else {
                stopAt(CANNOT_STAND);
            }
        }

        /** Passes the first word of a rule that may stand once. */
        private boolean passOnce(int rule) {
            if ((toldRules & rule) != 0) {
                stopAt(NO_ROOM);
                return false;
            }
            toldRules |= rule;
            tokens.goToNext();
            return true;
        }

        private void readScript() {
            if (tokens.kind != DIGITS || tokens.size > MOST_SCRIPT) {
                stopAt(CANNOT_STAND);
                return;
            }
            int script = 0;
            for (int k = 0; k < tokens.size; k++) {
                int digit = text.byteAt(tokens.start + k) - '0';
                if (digit != 0 && digit != 1) {
                    stopAt(CANNOT_STAND);
                    return;
                }
                script |= digit << k;
            }
            draft.script = script;
            draft.scriptLength = tokens.size;
            tokens.goToNext();
        }

        private void readOff() {
            tokens.goToNext();
            int outlet = readOutletName();
            if (outlet != NONE) {
                draft.off |= 1 << outlet;
                tokens.goToNext();
            }
        }

        private void readDark() {
            int dark = draft.darks;
            if (dark < 0 || dark >= MOST_DARKS) {
                stopAt(NO_ROOM);
                return;
            }
            tokens.goToNext();
            draft.darkTick[dark] = readNumber(1, 999);
            draft.darkSpan[dark] = readNumber(1, MOST_DARKNESS);
            draft.darks = dark + 1;
        }

        private void readSemicolon() {
            if (errorCode != 0) {
                return;
            }
            if (tokens.kind != SEMICOLON) {
                stopAt(CANNOT_STAND);
                return;
            }
            tokens.goToNext();
        }

        private int readNumber(int low, int high) {
            if (errorCode != 0) {
                return NONE;
            }
            if (tokens.kind != DIGITS || tokens.size > MOST_DIGITS) {
                stopAt(CANNOT_STAND);
                return NONE;
            }
            int number = 0;
            for (int k = 0; k < tokens.size; k++) {
                number = 10 * number + text.byteAt(tokens.start + k) - '0';
            }
            if (number < low || number > high) {
                stopAt(OUT_OF_RANGE);
                return NONE;
            }
            tokens.goToNext();
            return number;
        }

        private long readNewName() {
            long name = nameHere();
            if (name != 0 && draft.numberOf(name) != NONE) {
                stopAt(TOLD_ALREADY);
            }
            if (errorCode == 0) {
                tokens.goToNext();
            }
            return name;
        }

        /** Stays at the name, as the place of the errors that its caller may still find in it. */
        private int readOutletName() {
            long name = nameHere();
            if (name == 0) {
                return NONE;
            }
            int outlet = draft.numberOf(name);
            if (outlet == NONE) {
                stopAt(NO_OUTLET);
            }
            return outlet;
        }

        private long nameHere() {
            if (errorCode != 0) {
                return 0;
            }
            long name = text.nameAt(tokens.start, tokens.kind == WORD ? tokens.size : 0);
            if (name == 0) {
                stopAt(CANNOT_STAND);
            }
            return name;
        }
    }

    /** What the text tells. Only load() changes it, so that no state holds it. */
    private static final class Plan {
        int outlets;
        final long[] name = new long[MOST_OUTLETS];
        final int[] steady = new int[MOST_OUTLETS];
        final int[] inrush = new int[MOST_OUTLETS];
        final int[] peak = new int[MOST_OUTLETS];
        final int[] ticks = new int[MOST_OUTLETS];
        final int[] priority = new int[MOST_OUTLETS];
        final int[] needed = new int[MOST_OUTLETS];
        int off;
        int fuse;
        int retry;
        int patience;
        boolean isStrict;
        /** Bit k is the place k of the script. */
        int script;
        int scriptLength;
        int darks;
        final int[] darkTick = new int[MOST_DARKS];
        final int[] darkSpan = new int[MOST_DARKS];

        Plan() {
            clear();
        }

        /** What holds for a text that does not tell it. */
        void clear() {
            outlets = 0;
            off = 0;
            fuse = 100;
            retry = 3;
            patience = 4;
            isStrict = false;
            script = 0;
            scriptLength = 0;
            darks = 0;
        }

        void copyFrom(Plan other) {
            outlets = other.outlets;
            System.arraycopy(other.name, 0, name, 0, MOST_OUTLETS);
            copyRow(other.steady, steady);
            copyRow(other.inrush, inrush);
            copyRow(other.peak, peak);
            copyRow(other.ticks, ticks);
            copyRow(other.priority, priority);
            copyRow(other.needed, needed);
            off = other.off;
            fuse = other.fuse;
            retry = other.retry;
            patience = other.patience;
            isStrict = other.isStrict;
            script = other.script;
            scriptLength = other.scriptLength;
            darks = other.darks;
            copyRow(other.darkTick, darkTick);
            copyRow(other.darkSpan, darkSpan);
        }

        int numberOf(long wanted) {
            for (int k = 0; k < outlets; k++) {
                if (name[k] == wanted) {
                    return k;
                }
            }
            return NONE;
        }

        int needsInAll() {
            int sum = 0;
            for (int k = 0; k < outlets; k++) {
                sum += Integer.bitCount(needed[k]);
            }
            return sum;
        }

        int neededBy(int outlet) {
            int set = 0;
            for (int k = 0; k < outlets; k++) {
                if (isIn(needed[k], outlet)) {
                    set |= 1 << k;
                }
            }
            return set;
        }
    }

    /** The outlets as they are, whatever the panel knows of them. */
    private static final class Outlets {
        final Plan plan;
        final int[] priority = new int[MOST_OUTLETS];
        final int[] state = new int[MOST_OUTLETS];
        final int[] left = new int[MOST_OUTLETS];
        final int[] starts = new int[MOST_OUTLETS];
        final int[] ranAt = new int[MOST_OUTLETS];
        /** The tick of the latest ASK since it began to wait. */
        final int[] askedAt = new int[MOST_OUTLETS];
        int stopped;
        int polled;

        Outlets(Plan plan) {
            this.plan = plan;
        }

        void beginAnew() {
            copyRow(plan.priority, priority);
            Arrays.fill(left, 0);
            Arrays.fill(starts, 0);
            Arrays.fill(ranAt, NONE);
            Arrays.fill(askedAt, NONE);
            for (int k = 0; k < plan.outlets; k++) {
                state[k] = isIn(plan.off, k) ? IDLE : WAITING;
            }
            stopped = 0;
            polled = 0;
        }

        void copyFrom(Outlets other) {
            copyRow(other.priority, priority);
            copyRow(other.state, state);
            copyRow(other.left, left);
            copyRow(other.starts, starts);
            copyRow(other.ranAt, ranAt);
            copyRow(other.askedAt, askedAt);
            stopped = other.stopped;
            polled = other.polled;
        }

        /** An outlet is idle if, and only if, it does not want to run. */
        boolean doesWant(int outlet) {
            return state[outlet] != IDLE;
        }

        int inState(int wanted) {
            int set = 0;
            for (int k = 0; k < plan.outlets; k++) {
                if (state[k] == wanted) {
                    set |= 1 << k;
                }
            }
            return set;
        }

        int drawOf(int outlet) {
            if (state[outlet] == STARTING) {
                return plan.peak[outlet];
            }
            return state[outlet] == RUNNING ? plan.steady[outlet] : 0;
        }

        void beginToWait(int outlet) {
            state[outlet] = WAITING;
            left[outlet] = 0;
            askedAt[outlet] = NONE;
        }

        void becomeIdle(int outlet) {
            if (state[outlet] == STARTING || state[outlet] == RUNNING) {
                stopped |= 1 << outlet;
            }
            state[outlet] = IDLE;
            left[outlet] = 0;
        }

        void losePower() {
            for (int k = 0; k < plan.outlets; k++) {
                if (doesWant(k)) {
                    beginToWait(k);
                }
            }
            stopped = 0;
            polled = 0;
        }

        void hearGrant(int outlet) {
            if (state[outlet] == WAITING) {
                state[outlet] = STARTING;
                left[outlet] = plan.ticks[outlet];
                starts[outlet]++;
            }
        }

        void hearPoll(int outlet) {
            polled |= 1 << outlet;
        }

        boolean isDueToAsk(int outlet, int tick, int retry) {
            return state[outlet] == WAITING
                    && (askedAt[outlet] == NONE || tick - askedAt[outlet] >= retry);
        }

        void spendTick() {
            for (int k = 0; k < plan.outlets; k++) {
                if (state[k] == STARTING) {
                    left[k]--;
                }
            }
        }
    }

    /** Outlets in an order, each at most once. */
    private static final class Order {
        final int[] outlet = new int[MOST_OUTLETS];
        final int[] place = new int[MOST_OUTLETS];
        int size;

        void clear() {
            Arrays.fill(place, NONE);
            size = 0;
        }

        void copyFrom(Order other) {
            copyRow(other.outlet, outlet);
            copyRow(other.place, place);
            size = other.size;
        }

        void addOnce(int newcomer) {
            if (place[newcomer] == NONE && size < MOST_OUTLETS) {
                outlet[size] = newcomer;
                place[newcomer] = size;
                size++;
            }
        }
    }

    /** What the panel knows of the outlets, be it true or not. */
    private static final class Panel {
        final Plan plan;
        final int[] mark = new int[MOST_OUTLETS];
        final int[] time = new int[MOST_OUTLETS];
        final int[] expected = new int[MOST_OUTLETS];
        int learnedPeaks;
        final Order learnedOrder = new Order();
        final Order presentOrder = new Order();

        Panel(Plan plan) {
            this.plan = plan;
        }

        void beginAnew() {
            forgetLearned();
            losePower(0);
        }

        void copyFrom(Panel other) {
            copyRow(other.mark, mark);
            copyRow(other.time, time);
            copyRow(other.expected, expected);
            learnedPeaks = other.learnedPeaks;
            learnedOrder.copyFrom(other.learnedOrder);
            presentOrder.copyFrom(other.presentOrder);
        }

        void losePower(int tick) {
            Arrays.fill(mark, UNKNOWN);
            Arrays.fill(time, tick);
            presentOrder.clear();
        }

        void forgetLearned() {
            copyRow(plan.inrush, expected);
            learnedPeaks = 0;
            learnedOrder.clear();
        }

        int reservedFor(int outlet) {
            if (mark[outlet] == GRANTED) {
                return expected[outlet];
            }
            return mark[outlet] == KNOWN_TO_RUN ? plan.steady[outlet] : 0;
        }

        int reservedForAll() {
            int sum = 0;
            for (int k = 0; k < plan.outlets; k++) {
                sum += reservedFor(k);
            }
            return sum;
        }

        int markedWith(int wanted) {
            int set = 0;
            for (int k = 0; k < plan.outlets; k++) {
                if (mark[k] == wanted) {
                    set |= 1 << k;
                }
            }
            return set;
        }

        void setMark(int outlet, int newMark, int tick) {
            mark[outlet] = newMark;
            time[outlet] = tick;
        }

        void hearAsk(int outlet, int tick) {
            if (mark[outlet] == UNKNOWN || mark[outlet] == KNOWN_TO_RUN) {
                setMark(outlet, ASKED, tick);
            }
        }

        void hearRuns(int outlet, int tick) {
            setMark(outlet, KNOWN_TO_RUN, tick);
            expected[outlet] = plan.peak[outlet];
            learnedPeaks |= 1 << outlet;
            presentOrder.addOnce(outlet);
        }

        void hearState(int outlet, int state, int tick) {
            if (mark[outlet] == GRANTED && time[outlet] == tick - 1) {
                return;
            }
            if (state == IDLE) {
                setMark(outlet, UNKNOWN, tick);
            } else if (state == WAITING) {
                setMark(outlet, ASKED, tick);
            } else if (state == RUNNING) {
                hearRuns(outlet, tick);
            } else {
                time[outlet] = tick;
            }
        }

        boolean isDueToPoll(int outlet, int tick) {
            int age = tick - time[outlet];
            return mark[outlet] == GRANTED && age >= plan.patience
                    || mark[outlet] == KNOWN_TO_RUN && age >= 5 * plan.patience;
        }

        void learnOrder(int entitled) {
            if (entitled != 0 && (entitled & ~markedWith(KNOWN_TO_RUN)) == 0) {
                learnedOrder.copyFrom(presentOrder);
            }
        }
    }

    /** The messages that are to be received, and the counts of all that were sent. */
    private static final class Wire {
        final Plan plan;
        final int[] kind = new int[MOST_MESSAGES];
        final int[] outlet = new int[MOST_MESSAGES];
        final int[] told = new int[MOST_MESSAGES];
        int waiting;
        final int[] sent = new int[KINDS];
        final int[] lost = new int[KINDS];
        int sentInAll;
        /** Set on copies alone. */
        boolean isLossless;

        Wire(Plan plan) {
            this.plan = plan;
        }

        void beginAnew() {
            waiting = 0;
            Arrays.fill(sent, 0);
            Arrays.fill(lost, 0);
            sentInAll = 0;
            isLossless = false;
        }

        void copyFrom(Wire other) {
            copyRow(other.kind, kind);
            copyRow(other.outlet, outlet);
            copyRow(other.told, told);
            waiting = other.waiting;
            copyRow(other.sent, sent);
            copyRow(other.lost, lost);
            sentInAll = other.sentInAll;
            isLossless = other.isLossless;
        }

        void send(int newKind, int newOutlet, int newTold) {
            boolean isLost = losesNext();
            sentInAll++;
            sent[newKind]++;
            if (isLost) {
                lost[newKind]++;
            } else if (waiting < MOST_MESSAGES) {
                kind[waiting] = newKind;
                outlet[waiting] = newOutlet;
                told[waiting] = newTold;
                waiting++;
            }
        }

        int lostInAll() {
            int sum = 0;
            for (int k = 0; k < KINDS; k++) {
                sum += lost[k];
            }
            return sum;
        }

        private boolean losesNext() {
            if (isLossless || plan.scriptLength < 1) {
                return false;
            }
            return isIn(plan.script, sentInAll % plan.scriptLength);
        }
    }

    /** A state: all that changes, and how it goes on from tick to tick. */
    private static final class World {
        final Plan plan;
        final Outlets outlets;
        final Panel panel;
        final Wire wire;
        int tick;
        int darkUntil;
        int fuse;
        int retry;
        boolean isStrict;
        int blackouts;
        int trips;
        int peak;
        /** Room to sort in; what stands here is no part of the state. */
        private final int[] queue = new int[MOST_OUTLETS];
        private int queued;

        World(Plan plan) {
            this.plan = plan;
            this.outlets = new Outlets(plan);
            this.panel = new Panel(plan);
            this.wire = new Wire(plan);
        }

        void beginAnew() {
            tick = 0;
            darkUntil = 0;
            fuse = plan.fuse;
            retry = plan.retry;
            isStrict = plan.isStrict;
            blackouts = 0;
            trips = 0;
            peak = 0;
            outlets.beginAnew();
            panel.beginAnew();
            wire.beginAnew();
        }

        boolean isDark() {
            return tick < darkUntil;
        }

        void passTicks(int ticks) {
            for (int k = 0; k < ticks; k++) {
                passTick();
            }
        }

        void passTick() {
            for (int k = 0; k < plan.darks; k++) {
                if (plan.darkTick[k] == tick) {
                    beginBlackout(plan.darkSpan[k]);
                }
            }
            if (isDark()) {
                tick++;
                return;
            }
            receiveMessages();
            panel.learnOrder(entitled());
            for (int k = 0; k < plan.outlets; k++) {
                letOutletAct(k);
            }
            sendPolls();
            sendGrants();
            readMeter();
        }

        void beginBlackout(int ticks) {
            blackouts++;
            darkUntil = Math.max(darkUntil, tick + ticks);
            outlets.losePower();
            panel.losePower(tick);
            wire.waiting = 0;
        }

        private void receiveMessages() {
            for (int k = 0; k < wire.waiting; k++) {
                int outlet = wire.outlet[k];
                switch (wire.kind[k]) {
                    case ASK: panel.hearAsk(outlet, tick); break;
                    case RUNS: panel.hearRuns(outlet, tick); break;
                    case GONE: panel.setMark(outlet, UNKNOWN, tick); break;
                    case STATE: panel.hearState(outlet, wire.told[k], tick); break;
                    case GRANT: outlets.hearGrant(outlet); break;
                    case POLL: outlets.hearPoll(outlet); break;
                    default: break;
                }
            }
            wire.waiting = 0;
        }

        private void letOutletAct(int outlet) {
            if (outlets.state[outlet] == STARTING && outlets.left[outlet] == 0) {
                outlets.state[outlet] = RUNNING;
                outlets.ranAt[outlet] = tick;
                wire.send(RUNS, outlet, NONE);
            }
            if (isIn(outlets.stopped, outlet)) {
                outlets.stopped &= ~(1 << outlet);
                wire.send(GONE, outlet, NONE);
            }
            if (isIn(outlets.polled, outlet)) {
                outlets.polled &= ~(1 << outlet);
                wire.send(STATE, outlet, outlets.state[outlet]);
            }
            if (outlets.isDueToAsk(outlet, tick, retry)) {
                outlets.askedAt[outlet] = tick;
                wire.send(ASK, outlet, NONE);
            }
        }

        private void sendPolls() {
            for (int k = 0; k < plan.outlets; k++) {
                if (panel.isDueToPoll(k, tick)) {
                    panel.time[k] = tick;
                    wire.send(POLL, k, NONE);
                }
            }
        }

        private void sendGrants() {
            int granted = grantable();
            for (int k = 0; k < queued; k++) {
                int outlet = queue[k];
                if (isIn(granted, outlet)) {
                    panel.setMark(outlet, GRANTED, tick);
                    wire.send(GRANT, outlet, NONE);
                }
            }
        }

        /**
         * Grants that are not sent yet can be told all at once: a grant makes no mark a 3, and
         * what it reserves is added up here.
         */
        int grantable() {
            fillQueue();
            int running = panel.markedWith(KNOWN_TO_RUN);
            int reserved = panel.reservedForAll();
            int set = 0;
            for (int k = 0; k < queued; k++) {
                int outlet = queue[k];
                if ((plan.needed[outlet] & ~running) != 0) {
                    continue;
                }
                int draw = panel.expected[outlet];
                if (reserved + draw <= fuse) {
                    reserved += draw;
                    set |= 1 << outlet;
                } else if (isStrict) {
                    break;
                }
            }
            return set;
        }

        private void fillQueue() {
            queued = 0;
            for (int k = 0; k < plan.outlets && queued < MOST_OUTLETS; k++) {
                if (panel.mark[k] == ASKED) {
                    int place = queued;
                    while (place > 0 && isAhead(k, queue[place - 1])) {
                        queue[place] = queue[place - 1];
                        place--;
                    }
                    queue[place] = k;
                    queued++;
                }
            }
        }

        /** Numbers are not asked: the queue is filled by them, and equals keep their order. */
        private boolean isAhead(int outlet, int other) {
            if (outlets.priority[outlet] != outlets.priority[other]) {
                return outlets.priority[outlet] > outlets.priority[other];
            }
            int place = panel.learnedOrder.place[outlet];
            int otherPlace = panel.learnedOrder.place[other];
            return place != NONE && (otherPlace == NONE || place < otherPlace);
        }

        private void readMeter() {
            int load = drawOfAll();
            peak = Math.max(peak, load);
            outlets.spendTick();
            tick++;
            if (load > fuse) {
                trips++;
                beginBlackout(TRIP_DARKNESS);
            }
        }

        int drawOfAll() {
            int sum = 0;
            for (int k = 0; k < plan.outlets; k++) {
                sum += outlets.drawOf(k);
            }
            return sum;
        }

        /** Rights grow from none, so that outlets that need each other in a circle get none. */
        int entitled() {
            int set = 0;
            for (int round = 0; round < plan.outlets; round++) {
                int before = set;
                for (int k = 0; k < plan.outlets; k++) {
                    if (outlets.doesWant(k) && plan.inrush[k] <= fuse
                            && (plan.needed[k] & ~set) == 0) {
                        set |= 1 << k;
                    }
                }
                if (set == before) {
                    break;
                }
            }
            return set;
        }

        int reasonAgainst(int outlet) {
            if (!outlets.doesWant(outlet)) {
                return 1;
            }
            if (outlets.state[outlet] != WAITING) {
                return 2;
            }
            if (isDark()) {
                return 3;
            }
            if (panel.mark[outlet] != ASKED) {
                return 4;
            }
            if ((plan.needed[outlet] & ~panel.markedWith(KNOWN_TO_RUN)) != 0) {
                return 5;
            }
            if (panel.expected[outlet] > fuse) {
                return 6;
            }
            return isIn(grantable(), outlet) ? 0 : 7;
        }
    }

    /** The states before the latest changes, in a ring, and the saved ones. */
    private static final class History {
        final World[] before = new World[MOST_CHANGES];
        final World[] saved = new World[SLOTS];
        int oldest;
        int changes;
        int filledSlots;

        History(Plan plan) {
            for (int k = 0; k < MOST_CHANGES; k++) {
                before[k] = new World(plan);
            }
            for (int k = 0; k < SLOTS; k++) {
                saved[k] = new World(plan);
            }
        }

        void keep(World world) {
            copyState(world, before[(oldest + changes) & (MOST_CHANGES - 1)]);
            if (changes < MOST_CHANGES) {
                changes++;
            } else {
                oldest = (oldest + 1) & (MOST_CHANGES - 1);
            }
        }

        void takeBack(World world) {
            if (changes > 0) {
                changes--;
                copyState(before[(oldest + changes) & (MOST_CHANGES - 1)], world);
            }
        }

        void dropChanges() {
            changes = 0;
        }

        boolean isSaved(int slot) {
            return isIn(filledSlots, slot);
        }

        void putIn(int slot, World world) {
            copyState(world, saved[slot]);
            filledSlots |= 1 << slot;
        }

        void takeFrom(int slot, World world) {
            copyState(saved[slot], world);
        }

        void dropSaved() {
            filledSlots = 0;
        }
    }
}
