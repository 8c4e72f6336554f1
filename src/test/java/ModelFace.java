import java.util.ArrayList;
import java.util.List;
import java.util.NoSuchElementException;
import java.util.Set;

/** The face of the document over the plain model. */
final class ModelFace {
    private String buffer = "";
    private int errorCode = 0;
    private int errorPosition = -1;
    private Model now = new Model();
    private final List<Model> before = new ArrayList<>();
    private final Model[] slots = new Model[2];

    Set<String> arrivals() {
        return now.arrivals;
    }

    private static void index(boolean is) {
        if (!is) {
            throw new IndexOutOfBoundsException();
        }
    }

    private static void argument(boolean is) {
        if (!is) {
            throw new IllegalArgumentException();
        }
    }

    private static int bits(List<Integer> list) {
        return list.stream().mapToInt(k -> 1 << k).sum();
    }

    private static int one(boolean is) {
        return is ? 1 : 0;
    }

    private Model.Outlet at(int outlet) {
        index(outlet >= 0 && outlet < now.outlets.size());
        return now.outlets.get(outlet);
    }

    int append(int... five) {
        if (buffer.length() + 20 > 900) {
            throw new IllegalStateException();
        }
        StringBuilder longer = new StringBuilder(buffer);
        for (int four : five) {
            for (int shift = 24; shift >= 0; shift -= 8) {
                longer.append((char) (four >> shift & 255));
            }
        }
        buffer = longer.toString();
        return buffer.length();
    }

    int truncate(int length) {
        index(length >= 0 && length <= buffer.length());
        buffer = buffer.substring(0, length);
        return length;
    }

    int load() {
        Model draft = new Model();
        Model.Fault fault = draft.read(buffer);
        buffer = "";
        errorCode = fault == null ? 0 : fault.code;
        errorPosition = fault == null ? -1 : fault.position;
        argument(fault == null);
        now = draft;
        before.clear();
        slots[0] = null;
        slots[1] = null;
        return now.outlets.size();
    }

    int errorCode() {
        return errorCode;
    }

    int errorPosition() {
        return errorPosition;
    }

    int find() {
        int found = now.named(buffer);
        buffer = "";
        if (found < 0) {
            throw new NoSuchElementException();
        }
        return found;
    }

    int count(int what) {
        argument(what >= 0 && what <= 13);
        int sent = java.util.Arrays.stream(now.sent).sum();
        int lost = java.util.Arrays.stream(now.lost).sum();
        int needs = now.outlets.stream().mapToInt(o -> o.needs.size()).sum();
        return List.of(now.outlets.size(), needs, now.tick, one(now.tick >= now.darkUntil), now.blackouts, now.trips,
                now.wire.size(), sent, lost, now.fuse, now.retry, now.patience, one(now.strict), before.size()).get(what);
    }

    int outlet(int outlet, int what) {
        Model.Outlet o = at(outlet);
        argument(what >= 0 && what <= 9);
        return List.of(o.steady, o.inrush, o.peak, o.ticks, o.priority, one(o.wants), o.state(), o.left, o.starts, o.ranAt)
                .get(what);
    }

    int known(int outlet, int what) {
        Model.Outlet o = at(outlet);
        argument(what >= 0 && what <= 5);
        return List.of(o.mark, o.time, o.expected(), o.reserved(), now.learned.indexOf(outlet), one(o.learned)).get(what);
    }

    int needs(int outlet, boolean isBack) {
        Model.Outlet o = at(outlet);
        if (!isBack) {
            return bits(o.needs);
        }
        List<Integer> back = new ArrayList<>();
        for (int k = 0; k < now.outlets.size(); k++) {
            if (now.outlets.get(k).needs.contains(outlet)) {
                back.add(k);
            }
        }
        return bits(back);
    }

    int outletsWith(int value, boolean isMark) {
        argument(value >= 0 && value <= 3);
        List<Integer> with = new ArrayList<>();
        for (int k = 0; k < now.outlets.size(); k++) {
            if ((isMark ? now.outlets.get(k).mark : now.outlets.get(k).state()) == value) {
                with.add(k);
            }
        }
        return bits(with);
    }

    int rights() {
        return bits(now.rights());
    }

    int load(int what) {
        argument(what >= 0 && what <= 2);
        return what == 0 ? now.load() : what == 1 ? now.peak : now.reserved();
    }

    double strain() {
        return now.peak / (double) now.fuse;
    }

    int message(int index, int what) {
        index(index >= 0 && index < now.wire.size());
        argument(what >= 0 && what <= 2);
        Model.Message m = now.wire.get(index);
        return what == 0 ? m.kind : what == 1 ? m.outlet : m.told;
    }

    int traffic(int kind, boolean isLost) {
        argument(kind >= 0 && kind <= 5);
        return isLost ? now.lost[kind] : now.sent[kind];
    }

    int learned(int place) {
        index(place >= 0 && place < now.learned.size());
        return now.learned.get(place);
    }

    int grants() {
        return bits(now.copy().grant(false));
    }

    int why(int outlet) {
        Model.Outlet o = at(outlet);
        boolean[] reasons = {!o.wants, o.starting || o.running, now.tick < now.darkUntil, o.mark != 1,
            o.needs.stream().anyMatch(n -> now.outlets.get(n).mark != 3), o.expected() > now.fuse,
            !now.copy().grant(false).contains(outlet)};
        for (int k = 0; k < reasons.length; k++) {
            if (reasons[k]) {
                return k + 1;
            }
        }
        return 0;
    }

    private static int until(Model copy, List<Integer> wanted) {
        for (int n = 0; n <= 500; n++) {
            if (wanted.stream().allMatch(k -> copy.outlets.get(k).running)) {
                return n;
            }
            copy.passTick();
        }
        throw new NoSuchElementException();
    }

    int runsIn(int outlet) {
        at(outlet);
        return until(now.copy(), List.of(outlet));
    }

    int allIn(int how) {
        argument(how >= 0 && how <= 3);
        Model copy = now.copy();
        if (how == 1) {
            copy.script = "";
        }
        if (how == 2) {
            copy.strict = !copy.strict;
        }
        if (how == 3) {
            copy.forget();
        }
        return until(copy, now.rights());
    }

    int peakIn(int ticks, int fuse) {
        argument(ticks >= 1 && ticks <= 500 && fuse >= 1 && fuse <= 9999);
        Model copy = now.copy();
        copy.fuse = fuse;
        copy.peak = 0;
        for (int k = 0; k < ticks; k++) {
            copy.passTick();
        }
        return copy.peak;
    }

    int sentIn(int ticks, int retry) {
        argument(ticks >= 1 && ticks <= 500 && retry >= 1 && retry <= 20);
        Model copy = now.copy();
        copy.retry = retry;
        for (int k = 0; k < ticks; k++) {
            copy.passTick();
        }
        return java.util.Arrays.stream(copy.sent).sum() - java.util.Arrays.stream(now.sent).sum();
    }

    private void change() {
        before.add(now.copy());
        if (before.size() > 8) {
            before.remove(0);
        }
    }

    int run(int ticks) {
        argument(ticks >= 1 && ticks <= 200);
        if (now.tick + ticks > 5000) {
            throw new IllegalStateException();
        }
        change();
        for (int k = 0; k < ticks; k++) {
            now.passTick();
        }
        return Integer.bitCount(outletsWith(3, false));
    }

    int blackout(int ticks) {
        argument(ticks >= 1 && ticks <= 50);
        change();
        now.blackout(ticks);
        return now.darkUntil;
    }

    boolean want(int outlet, boolean wants) {
        boolean did = at(outlet).wants;
        change();
        now.want(outlet, wants);
        return did;
    }

    int setFuse(int fuse) {
        argument(fuse >= 1 && fuse <= 9999);
        change();
        int old = now.fuse;
        now.fuse = fuse;
        return old;
    }

    int setPriority(int outlet, int priority) {
        at(outlet);
        argument(priority >= 0 && priority <= 9);
        change();
        int old = at(outlet).priority;
        at(outlet).priority = priority;
        return old;
    }

    int forget() {
        change();
        int had = (int) now.outlets.stream().filter(o -> o.learned).count();
        now.forget();
        return had;
    }

    int undo() {
        if (before.isEmpty()) {
            throw new IllegalStateException();
        }
        now = before.remove(before.size() - 1);
        return before.size();
    }

    int save(int slot) {
        index(slot >= 0 && slot <= 1);
        slots[slot] = now.copy();
        return 0;
    }

    int restore(int slot) {
        index(slot >= 0 && slot <= 1);
        if (slots[slot] == null) {
            throw new NoSuchElementException();
        }
        now = slots[slot].copy();
        before.clear();
        return 0;
    }
}
