import java.util.ArrayList;
import java.util.Comparator;
import java.util.HashMap;
import java.util.List;
import java.util.Map;
import java.util.Set;
import java.util.TreeSet;

/**
 * The document once more, written as plainly as it can be with all of the Java library: objects for
 * outlets and messages, and a new copy for each question. The random runs compare the class with it.
 */
final class Model {
    static final class Fault {
        final int code;
        final int position;

        Fault(int code, int position) {
            this.code = code;
            this.position = position;
        }
    }

    static final class Outlet implements Cloneable {
        String name;
        int steady, inrush, peak, ticks, priority;
        boolean wants = true;
        boolean starting, running;
        int left, starts;
        int ranAt = -1;
        Integer asked;
        boolean stopped, polled;
        int mark, time;
        boolean learned;
        List<Integer> needs = new ArrayList<>();

        int state() {
            return running ? 3 : starting ? 2 : wants ? 1 : 0;
        }

        int draw() {
            return running ? steady : starting ? peak : 0;
        }

        int expected() {
            return learned ? peak : inrush;
        }

        int reserved() {
            return mark == 2 ? expected() : mark == 3 ? steady : 0;
        }

        Outlet copy() {
            try {
                return (Outlet) clone();
            } catch (CloneNotSupportedException e) {
                throw new AssertionError(e);
            }
        }
    }

    static final class Message {
        final int kind, outlet, told;

        Message(int kind, int outlet, int told) {
            this.kind = kind;
            this.outlet = outlet;
            this.told = told;
        }
    }

    List<Outlet> outlets = new ArrayList<>();
    List<int[]> darks = new ArrayList<>();
    String script = "";
    int fuse = 100, retry = 3, patience = 4;
    boolean strict;
    int tick, darkUntil, blackouts, trips, peak;
    List<Message> wire = new ArrayList<>();
    int[] sent = new int[6], lost = new int[6];
    List<Integer> learned = new ArrayList<>(), present = new ArrayList<>();
    /** What was received, and by whom, as arrival() tells it; the copies add to the same ones. */
    Set<String> arrivals = new TreeSet<>();

    Model copy() {
        Model m = new Model();
        m.arrivals = arrivals;
        for (Outlet o : outlets) {
            m.outlets.add(o.copy());
        }
        m.darks = darks;
        m.script = script;
        m.fuse = fuse;
        m.retry = retry;
        m.patience = patience;
        m.strict = strict;
        m.tick = tick;
        m.darkUntil = darkUntil;
        m.blackouts = blackouts;
        m.trips = trips;
        m.peak = peak;
        m.wire = new ArrayList<>(wire);
        m.sent = sent.clone();
        m.lost = lost.clone();
        m.learned = new ArrayList<>(learned);
        m.present = new ArrayList<>(present);
        return m;
    }

    // the text, by recursive descent over a list of tokens; answers null if it has no error

    private List<String> words;
    private List<Integer> places;
    private int at;

    Fault read(String text) {
        words = new ArrayList<>();
        places = new ArrayList<>();
        java.util.regex.Matcher m = java.util.regex.Pattern.compile("[a-z]+|[0-9]+|[^ \n]", java.util.regex.Pattern.DOTALL)
                .matcher(text);
        while (m.find()) {
            words.add(m.group());
            places.add(m.start());
        }
        words.add("");
        places.add(text.length());
        at = 0;
        try {
            expect("fuse");
            fuse = number(1, 9999);
            expect(";");
            Map<String, Integer> seen = new HashMap<>();
            int part = 0;
            while (!words.get(at).isEmpty()) {
                String word = words.get(at);
                if (word.equals("outlet") && part == 0) {
                    room(outlets.size() < 12);
                    outletStatement();
                } else if (word.equals("need") && part <= 1) {
                    part = 1;
                    room(outlets.stream().mapToInt(o -> o.needs.size()).sum() < 16);
                    needStatement();
                } else {
                    part = 2;
                    int before = seen.merge(word, 1, Integer::sum) - 1;
                    rule(word, before);
                }
                expect(";");
            }
        } catch (Stop stop) {
            return new Fault(stop.code, places.get(at));
        }
        return null;
    }

    private static final class Stop extends RuntimeException {
        private static final long serialVersionUID = 1;
        final int code;

        Stop(int code) {
            this.code = code;
        }
    }

    private void expect(String word) {
        if (!words.get(at).equals(word)) {
            throw new Stop(1);
        }
        at++;
    }

    private void room(boolean is) {
        if (!is) {
            throw new Stop(5);
        }
        at++;
    }

    private int number(int low, int high) {
        if (!words.get(at).matches("[0-9]{1,4}")) {
            throw new Stop(1);
        }
        int value = Integer.parseInt(words.get(at));
        if (value < low || value > high) {
            throw new Stop(2);
        }
        at++;
        return value;
    }

    private String name() {
        if (!words.get(at).matches("[a-z]{1,8}")) {
            throw new Stop(1);
        }
        return words.get(at);
    }

    int named(String name) {
        for (int k = 0; k < outlets.size(); k++) {
            if (outlets.get(k).name.equals(name)) {
                return k;
            }
        }
        return -1;
    }

    private int known() {
        int k = named(name());
        if (k < 0) {
            throw new Stop(4);
        }
        return k;
    }

    private void outletStatement() {
        Outlet o = new Outlet();
        o.name = name();
        if (named(o.name) >= 0) {
            throw new Stop(3);
        }
        at++;
        o.steady = number(0, 999);
        o.inrush = number(o.steady, 1999);
        o.peak = number(o.steady, o.inrush);
        o.ticks = number(1, 20);
        o.priority = number(0, 9);
        outlets.add(o);
    }

    private void needStatement() {
        int first = known();
        at++;
        int second = known();
        if (first == second || outlets.get(first).needs.contains(second)) {
            throw new Stop(3);
        }
        at++;
        outlets.get(first).needs.add(second);
    }

    private void rule(String word, int before) {
        switch (word) {
            case "loss":
                room(before < 1);
                if (!words.get(at).matches("[01]{1,24}")) {
                    throw new Stop(1);
                }
                script = words.get(at++);
                break;
            case "retry":
                room(before < 1);
                retry = number(1, 20);
                break;
            case "patience":
                room(before < 1);
                patience = number(2, 20);
                break;
            case "strict":
                room(before < 1);
                strict = true;
                break;
            case "off":
                at++;
                outlets.get(known()).wants = false;
                at++;
                break;
            case "dark":
                room(before < 4);
                int from = number(1, 999);
                darks.add(new int[] {from, number(1, 50)});
                break;
            default:
                throw new Stop(1);
        }
    }

    // ticks

    void send(int kind, int outlet, int told) {
        int n = java.util.Arrays.stream(sent).sum();
        sent[kind]++;
        if (!script.isEmpty() && script.charAt(n % script.length()) == '1') {
            lost[kind]++;
        } else {
            wire.add(new Message(kind, outlet, told));
        }
    }

    void blackout(int d) {
        blackouts++;
        darkUntil = Math.max(darkUntil, tick + d);
        for (Outlet o : outlets) {
            o.starting = false;
            o.running = false;
            o.left = 0;
            o.asked = null;
            o.stopped = false;
            o.polled = false;
            o.mark = 0;
            o.time = tick;
        }
        wire.clear();
        present.clear();
    }

    void want(int k, boolean wants) {
        Outlet o = outlets.get(k);
        if (wants && !o.wants) {
            o.asked = null;
        }
        if (!wants && (o.starting || o.running)) {
            o.stopped = true;
            o.starting = false;
            o.running = false;
            o.left = 0;
        }
        o.wants = wants;
    }

    void forget() {
        learned.clear();
        for (Outlet o : outlets) {
            o.learned = false;
        }
    }

    /** Whether k has a right, with those passed on the way that would be a circle. */
    boolean right(int k, List<Integer> way) {
        Outlet o = outlets.get(k);
        if (!o.wants || o.inrush > fuse || way.contains(k)) {
            return false;
        }
        List<Integer> longer = new ArrayList<>(way);
        longer.add(k);
        for (int need : o.needs) {
            if (!right(need, longer)) {
                return false;
            }
        }
        return true;
    }

    List<Integer> rights() {
        List<Integer> have = new ArrayList<>();
        for (int k = 0; k < outlets.size(); k++) {
            if (right(k, new ArrayList<>())) {
                have.add(k);
            }
        }
        return have;
    }

    private void becomesRunning(int k) {
        Outlet o = outlets.get(k);
        o.mark = 3;
        o.time = tick;
        o.learned = true;
        if (!present.contains(k)) {
            present.add(k);
        }
    }

    private static final String[] KINDS = {"ASK", "RUNS", "GONE", "STATE", "GRANT", "POLL"};

    /** The message, the mark and the state that it comes upon, and whether the time of the mark is one tick ago. */
    private String arrival(Message m) {
        Outlet o = outlets.get(m.outlet);
        String message = KINDS[m.kind] + (m.told < 0 ? "" : "=" + m.told);
        return message + " mark " + o.mark + " state " + o.state() + (o.time == tick - 1 ? " fresh" : "");
    }

    private void receive(Message m) {
        arrivals.add(arrival(m));
        Outlet o = outlets.get(m.outlet);
        if (m.kind == 0 && (o.mark == 0 || o.mark == 3)) {
            o.mark = 1;
            o.time = tick;
        } else if (m.kind == 1) {
            becomesRunning(m.outlet);
        } else if (m.kind == 2) {
            o.mark = 0;
            o.time = tick;
        } else if (m.kind == 3 && !(o.mark == 2 && o.time == tick - 1)) {
            o.time = tick;
            if (m.told < 2) {
                o.mark = m.told;
            } else if (m.told == 3) {
                becomesRunning(m.outlet);
            }
        } else if (m.kind == 4 && o.state() == 1) {
            o.starting = true;
            o.left = o.ticks;
            o.starts++;
        } else if (m.kind == 5) {
            o.polled = true;
        }
    }

    List<Integer> queue() {
        List<Integer> line = new ArrayList<>();
        for (int k = 0; k < outlets.size(); k++) {
            if (outlets.get(k).mark == 1) {
                line.add(k);
            }
        }
        line.sort(Comparator.<Integer>comparingInt(k -> -outlets.get(k).priority)
                .thenComparingInt(k -> learned.contains(k) ? learned.indexOf(k) : 99)
                .thenComparingInt(k -> k));
        return line;
    }

    int reserved() {
        return outlets.stream().mapToInt(Outlet::reserved).sum();
    }

    int load() {
        return outlets.stream().mapToInt(Outlet::draw).sum();
    }

    /** The panel grants, and sends if it is to. */
    List<Integer> grant(boolean sends) {
        List<Integer> granted = new ArrayList<>();
        for (int k : queue()) {
            Outlet o = outlets.get(k);
            if (o.needs.stream().anyMatch(n -> outlets.get(n).mark != 3)) {
                continue;
            }
            if (reserved() + o.expected() > fuse) {
                if (strict) {
                    break;
                }
                continue;
            }
            if (sends) {
                send(4, k, -1);
            }
            o.mark = 2;
            o.time = tick;
            granted.add(k);
        }
        return granted;
    }

    void passTick() {
        for (int[] dark : darks) {
            if (dark[0] == tick) {
                blackout(dark[1]);
            }
        }
        if (tick < darkUntil) {
            tick++;
            return;
        }
        List<Message> arrived = wire;
        wire = new ArrayList<>();
        arrived.forEach(this::receive);
        List<Integer> rights = rights();
        if (!rights.isEmpty() && rights.stream().allMatch(k -> outlets.get(k).mark == 3)) {
            learned = new ArrayList<>(present);
        }
        for (int k = 0; k < outlets.size(); k++) {
            Outlet o = outlets.get(k);
            if (o.starting && o.left == 0) {
                o.starting = false;
                o.running = true;
                o.ranAt = tick;
                send(1, k, -1);
            }
            if (o.stopped) {
                o.stopped = false;
                send(2, k, -1);
            }
            if (o.polled) {
                o.polled = false;
                send(3, k, o.state());
            }
            if (o.state() == 1 && (o.asked == null || tick - o.asked >= retry)) {
                o.asked = tick;
                send(0, k, -1);
            }
        }
        for (int k = 0; k < outlets.size(); k++) {
            Outlet o = outlets.get(k);
            int age = tick - o.time;
            if (o.mark == 2 && age >= patience || o.mark == 3 && age >= 5 * patience) {
                o.time = tick;
                send(5, k, -1);
            }
        }
        grant(true);
        int load = load();
        peak = Math.max(peak, load);
        for (Outlet o : outlets) {
            if (o.starting) {
                o.left--;
            }
        }
        tick++;
        if (load > fuse) {
            trips++;
            blackout(5);
        }
    }
}
