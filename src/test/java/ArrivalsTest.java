import java.util.ArrayDeque;
import java.util.ArrayList;
import java.util.Deque;
import java.util.HashSet;
import java.util.List;
import java.util.Set;
import java.util.TreeSet;

/**
 * A message comes upon a mark and a state. Which of these can come together is found by going through all states
 * of one outlet in the plain model; then runs with many losses and many want() come to each of them, and the class
 * is compared with the model behind each tick.
 */
public final class ArrivalsTest {
    private static final int OBJECTS = 25000;
    private static final int STEPS = 36;
    private static final int MOST_TICKS = 3;
    private static final int MOST_RETRY = 3;
    private static final int MOST_PATIENCE = 3;
    private static long seed = 1119;

    public static void main(String[] args) {
        Set<String> possible = possible();
        Set<String> met = new TreeSet<>();
        for (int k = 0; k < OBJECTS; k++) {
            met.addAll(oneRun(k));
        }
        Set<String> notMet = new TreeSet<>(possible);
        notMet.removeAll(met);
        met.removeAll(possible);
        Check.same("possible, but in no run", Set.of(), notMet);
        Check.same("in a run, but not possible", Set.of(), met);
        Check.same("how many are possible", 86, possible.size());
        for (String arrival : possible) {
            Check.same(arrival + " is one of those that NOTES.md calls impossible", false, isCalledImpossible(arrival));
        }
        Check.end("ArrivalsTest");
    }

    private static boolean isCalledImpossible(String arrival) {
        return arrival.startsWith("RUNS") && !arrival.contains("mark 2")
                || arrival.startsWith("GONE") && (arrival.contains("mark 0") || arrival.contains("mark 1"))
                || arrival.startsWith("GRANT") && (arrival.contains("state 2") || arrival.contains("state 3"))
                || arrival.startsWith("STATE=2") && !arrival.contains("mark 2");
    }

    // all states of one outlet: losses, grants, want() and blackouts are free

    private static Set<String> possible() {
        Set<String> arrivals = new TreeSet<>();
        for (int ticks = 1; ticks <= MOST_TICKS; ticks++) {
            for (int retry = 1; retry <= MOST_RETRY; retry++) {
                for (int patience = 2; patience <= MOST_PATIENCE; patience++) {
                    arrivals.addAll(arrivals(ticks, retry, patience));
                }
            }
        }
        return arrivals;
    }

    private static Set<String> arrivals(int ticks, int retry, int patience) {
        Model first = new Model();
        first.read("fuse 9;outlet a 1 1 1 " + ticks + " 0;outlet b 1 1 1 1 0;need a b;retry " + retry + ";patience " + patience
                + ";off b;");
        Set<String> seen = new HashSet<>();
        Deque<Model> open = new ArrayDeque<>();
        seen.add(key(first));
        open.add(first);
        while (!open.isEmpty()) {
            for (Model next : following(open.remove())) {
                if (seen.add(key(next))) {
                    open.add(next);
                }
            }
        }
        return first.arrivals;
    }

    /** All on which it depends how the outlet a goes on; what lies long ago is all the same. */
    private static String key(Model m) {
        Model.Outlet a = m.outlets.get(0);
        StringBuilder key = new StringBuilder();
        key.append(a.state()).append(' ').append(a.left).append(' ').append(a.stopped).append(' ').append(a.mark).append(' ');
        key.append(Math.min(m.tick - a.time, 5 * m.patience + 1)).append(' ');
        key.append(a.asked == null || a.state() != 1 ? -1 : Math.min(m.tick - a.asked, m.retry));
        for (Model.Message message : m.wire) {
            key.append(' ').append(message.kind).append('=').append(message.told);
        }
        return key.toString();
    }

    private static List<Model> following(Model m) {
        List<Model> next = new ArrayList<>();
        Model wanting = m.copy();
        wanting.want(0, !m.outlets.get(0).wants);
        next.add(wanting);
        for (int d = 1; d <= 5 * m.patience + 1; d++) {
            Model dark = m.copy();
            dark.blackout(d);
            dark.tick += d;
            next.add(dark);
        }
        for (int mark = 0; mark <= 3; mark += 3) {
            int sent = java.util.Arrays.stream(ticked(m, mark, "0").sent).sum();
            for (int losses = 0; losses < 1 << sent; losses++) {
                next.add(ticked(m, mark, Integer.toBinaryString(1 << sent | losses).substring(1)));
            }
        }
        return next;
    }

    /** One tick more: with the mark 3 of the outlet b, a may be granted, with the mark 0 it may not. */
    private static Model ticked(Model m, int mark, String script) {
        Model ticked = m.copy();
        ticked.outlets.get(1).mark = mark;
        ticked.outlets.get(1).time = ticked.tick;
        ticked.sent = new int[6];
        ticked.script = script;
        ticked.passTick();
        return ticked;
    }

    // runs

    /** From 0 to below the bound. */
    private static int any(int bound) {
        seed = seed * 6364136223846793005L + 1442695040888963407L;
        return (int) ((seed >>> 33) % bound);
    }

    private static String text() {
        StringBuilder text = new StringBuilder("fuse ").append(3 + any(3)).append(';');
        for (char name = 'a'; name <= 'b'; name++) {
            text.append("outlet ").append(name).append(any(2) == 0 ? " 1 4 2 " : " 2 3 3 ").append(1 + any(MOST_TICKS))
                    .append(' ').append(any(2)).append(';');
        }
        text.append(any(2) == 0 ? "need a b;" : "").append("loss ");
        int often = 2 + any(5);
        for (int k = 12 + any(13); k > 0; k--) {
            text.append(any(often) == 0 ? '1' : '0');
        }
        return text.append(";retry ").append(1 + any(MOST_RETRY)).append(";patience ").append(2 + any(MOST_PATIENCE - 1))
                .append(";").toString();
    }

    private static Set<String> oneRun(int number) {
        String text = text();
        BlackoutStart x = Texts.loaded(text);
        ModelFace m = new ModelFace();
        m.append(fives(text));
        m.truncate(text.length());
        m.load();
        int often = 2 + any(12);
        for (int step = 0; step < STEPS; step++) {
            String name = "run " + number + " step " + step + " " + text + " ";
            for (int k = any(isAsking(m) ? 2 : often) == 0 ? 1 + any(2) : 0; k > 0; k--) {
                int outlet = any(4) == 0 ? 1 : 0;
                boolean wants = m.outlet(outlet, 5) == 0;
                Check.same(name + "want", m.want(outlet, wants), x.want(outlet, wants));
            }
            if (any(60) == 0) {
                Check.same(name + "blackout", m.blackout(1), x.blackout(1));
            }
            Check.same(name + "run", m.run(1), x.run(1));
            Check.same(name + "messages", m.count(6), x.count(6));
            Check.same(name + "load", m.load(0), x.load(0));
            for (int outlet = 0; outlet < 2; outlet++) {
                Check.same(name + "mark of " + outlet, m.known(outlet, 0), x.known(outlet, 0));
                Check.same(name + "time of " + outlet, m.known(outlet, 1), x.known(outlet, 1));
                Check.same(name + "state of " + outlet, m.outlet(outlet, 6), x.outlet(outlet, 6));
                Check.same(name + "ticks left of " + outlet, m.outlet(outlet, 7), x.outlet(outlet, 7));
            }
        }
        return m.arrivals();
    }

    /** Whether a POLL or its answer is on the way, or soon will be: then a want() comes upon what is rare. */
    private static boolean isAsking(ModelFace m) {
        if (m.known(0, 0) == 3 && m.count(2) - m.known(0, 1) >= 5 * m.count(11) - 2) {
            return true;
        }
        for (int k = 0; k < m.count(6); k++) {
            if (m.message(k, 0) == 3 || m.message(k, 0) == 5) {
                return true;
            }
        }
        return false;
    }

    private static int[] fives(String text) {
        int[] fours = new int[(text.length() + 19) / 20 * 5];
        for (int k = 0; k < fours.length; k++) {
            fours[k] = Texts.four(text, 4 * k);
        }
        return fours;
    }
}
