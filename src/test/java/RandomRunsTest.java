import java.util.TreeMap;
import java.util.function.Predicate;

/** Long runs of calls, the same each time, whose answers have to be the Model's. */
public final class RandomRunsTest {
    private static final int RUNS = 3000, CALLS = 400;
    private static final int[] EDGES = {Integer.MIN_VALUE, Integer.MIN_VALUE + 9, -3, -2, -1, 4, 10, 22, 32, 40, 100, Integer.MAX_VALUE};
    private static final TreeMap<String, Integer> seen = new TreeMap<>();

    private long state;
    private final MarkRules x = new MarkRules();
    private final Model m = new Model();
    private final StringBuilder log = new StringBuilder();
    private final int busy;

    private RandomRunsTest(int seed) {
        state = seed * 7919L + 17;
        busy = seed % 4;
    }

    public static void main(String[] args) {
        for (int run = 0; run < RUNS; run++) {
            RandomRunsTest test = new RandomRunsTest(run);
            boolean right = true;
            for (int call = 0; right && call < CALLS; call++) {
                right = test.step(call);
            }
            if (!right || !test.lastLook()) {
                System.out.println("run " + run + ":\n" + test.log);
                System.exit(1);
            }
        }
        if (args.length > 0) {
            seen.forEach((answer, times) -> System.out.println(answer + ": " + times));
        }
        String[] needed = {"element -6", "element -3", "fallback -4", "fallback -5", "container 0",
            "container 1", "container -4", "push -3", "push -5", "give -3", "give -5", "put -11", "put -12", "put -13",
            "put -14", "put -15", "put -3", "put -4", "ask several", "equal 1", "equal 0"};
        for (String answer : needed) {
            if (!seen.containsKey(answer)) {
                System.out.println("the runs never came to: " + answer);
                System.exit(1);
            }
        }
    }

    private int below(int bound) {
        state = state * 6364136223846793005L + 1442695040888963407L;
        return (int) ((state >>> 33) % bound);
    }

    /** Mostly a number below the bound, now and then one at an edge. */
    private int some(int bound) {
        return below(40) == 0 ? EDGES[below(EDGES.length)] : bound > 0 ? below(bound) : below(3) - 1;
    }

    /** Mostly one of the VALUES that would do, if there is one. */
    private int likely(Predicate<Model.Value> wouldDo) {
        if (below(8) > 0 && values() > 0) {
            int start = below(values());
            for (int k = 0; k < values(); k++) {
                Model.Value v = m.values.get((start + k) % values());
                if (wouldDo.test(v)) {
                    return v.number;
                }
            }
        }
        return some(values());
    }

    private int likelyFor(Model.Element e) {
        return likely(v -> e == null || !v.done && v.kind == e.kind && (e.row || v.sort != 1));
    }

    private boolean coin() {
        return below(2) == 0;
    }

    private boolean same(String call, int got, int want) {
        log.append(call).append(" = ").append(got).append('\n');
        String name = call.substring(0, call.indexOf('('));
        String answer = name.equals("ask") && want <= -102 ? "several" : Integer.toString(Math.min(want, 5));
        seen.merge(name + " " + answer, 1, Integer::sum);
        if (got != want) {
            log.append("due is ").append(want);
        }
        return got == want;
    }

    private boolean step(int call) {
        if (busy > 0 && call < 12) {
            return opening(call);
        }
        if (call < 70) {
            int choice = below(12);
            return choice < 2 ? fewMarks() : choice < 6 ? element() : choice < 8 ? place() : choice < 10 ? preset() : build();
        }
        return below(3) > 0 ? build() : question();
    }

    /** A MARK in a CONTAINER, that in another in some runs, and CLASSES one below the other. */
    private boolean opening(int call) {
        switch (call) {
            case 0: case 1: case 2: return mark();
            case 3: return same("element(1, 0, 10, true)", x.element(1, 0, 10, true), m.element(1, 0, 10, true));
            case 4: return same("element(2, 0, 11, true)", x.element(2, 0, 11, true), m.element(2, 0, 11, true));
            case 5: return element();
            case 6: return same("row(10)", x.row(10), m.row(10));
            case 7: return coin() ? fallback() : question();
            case 8: return same("container(0, 1)", x.container(0, 1), m.container(0, 1));
            case 9: return coin() ? container() : question();
            case 10: return same("place(0, -1)", x.place(0, -1), m.place(0, -1));
            default: return same("place(0, 0)", x.place(0, 0), m.place(0, 0));
        }
    }

    /** Runs with few MARKS come further with each of them. */
    private boolean fewMarks() {
        return marks() < 3 + 3 * busy || below(20) == 0 ? mark() : element();
    }

    /** What may only be told while no INSTANCE is there. */
    private boolean preset() {
        switch (below(5)) {
            case 0: return value();
            case 1: return row();
            case 2: return container();
            default: return fallback();
        }
    }

    private int marks() {
        return m.marks.size();
    }

    private int values() {
        return m.values.size();
    }

    private int places() {
        return m.places.size();
    }

    private int kind() {
        return coin() ? some(4) : 10 + some(marks());
    }

    private boolean mark() {
        int targets = below(4) > 0 ? 31 : some(32);
        int keep = below(4) > 0 ? 2 : some(3);
        boolean inherited = coin();
        return same("mark(" + targets + ", " + keep + ", " + inherited + ")",
            x.mark(targets, keep, inherited), m.mark(targets, keep, inherited));
    }

    private boolean element() {
        int mark = some(marks());
        int name = coin() ? 0 : some(10);
        int kind = kind();
        boolean row = coin() || name == 0;
        return same("element(" + mark + ", " + name + ", " + kind + ", " + row + ")",
            x.element(mark, name, kind, row), m.element(mark, name, kind, row));
    }

    private boolean place() {
        int kind = coin() ? 0 : some(6);
        int of = below(4) == 0 ? -1 : some(places());
        return same("place(" + kind + ", " + of + ")", x.place(kind, of), m.place(kind, of));
    }

    private boolean build() {
        if (values() > 92 && below(4) > 0) {
            return coin() ? give() : coin() ? push() : put();
        }
        if (busy == 3 && below(3) == 0) {
            return coin() ? value() : instance();
        }
        switch (below(20)) {
            case 0: return fewMarks();
            case 1: return below(3) == 0 ? element() : give();
            case 2: return below(3) == 0 ? place() : put();
            case 3: case 4: return fallback();
            case 5: return container();
            case 6: return value();
            case 7: return row();
            case 8: case 9: return instance();
            case 10: case 11: case 12: return push();
            case 13: case 14: case 15: return give();
            default: return put();
        }
    }

    private boolean fallback() {
        int mark = some(marks());
        int name = nameOf(Model.at(m.marks, mark));
        Model.Mark known = Model.at(m.marks, mark);
        int value = likelyFor(known == null ? null : m.elementOf(known, name));
        return same("fallback(" + mark + ", " + name + ", " + value + ")",
            x.fallback(mark, name, value), m.fallback(mark, name, value));
    }

    private int nameOf(Model.Mark mark) {
        boolean any = mark == null || mark.elements.isEmpty() || below(10) == 0;
        return any ? some(10) : mark.elements.get(below(mark.elements.size())).name;
    }

    private boolean container() {
        int a = some(marks());
        int c = some(marks());
        Model.Mark box = Model.at(m.marks, c);
        if (box != null && m.elementOf(box, 0) != null && m.elementOf(box, 0).kind >= 10 && below(6) > 0) {
            a = m.elementOf(box, 0).kind - 10;
        }
        return same("container(" + a + ", " + c + ")", x.container(a, c), m.container(a, c));
    }

    private boolean value() {
        int kind = some(4);
        int v = kind == 0 && coin() ? EDGES[below(EDGES.length)] : some(5);
        return same("value(" + kind + ", " + v + ")", x.value(kind, v), m.value(kind, v));
    }

    private boolean row() {
        int kind = kind();
        return same("row(" + kind + ")", x.row(kind), m.row(kind));
    }

    private boolean push() {
        int row = likely(v -> v.sort == 1 && !v.done);
        Model.Value r = Model.at(m.values, row);
        int value = likely(v -> r != null && v.kind == r.kind && v.sort != 1 && !v.done);
        return same("push(" + row + ", " + value + ")", x.push(row, value), m.push(row, value));
    }

    private boolean instance() {
        int mark = busy > 0 && coin() ? below(3) : some(marks());
        return same("instance(" + mark + ")", x.instance(mark), m.instance(mark));
    }

    private boolean give() {
        int instance = likely(v -> v.sort == 2 && !v.done && !m.whole(v));
        Model.Value i = Model.at(m.values, instance);
        int name = nameOf(i == null ? null : i.mark);
        int value = likelyFor(i == null || i.mark == null ? null : m.elementOf(i.mark, name));
        return same("give(" + instance + ", " + name + ", " + value + ")",
            x.give(instance, name, value), m.give(instance, name, value));
    }

    private boolean put() {
        int place = coin() ? some(places()) : some(Math.min(places(), 2));
        int instance = likely(v -> v.sort == 2 && !v.done && (m.whole(v) || below(10) == 0));
        return same("put(" + place + ", " + instance + ")", x.put(place, instance), m.put(place, instance));
    }

    private boolean question() {
        int value = some(values());
        int other = some(values());
        int place = coin() ? some(places()) : some(Math.min(places(), 6));
        int mark = busy > 0 && coin() ? below(3) : some(marks());
        int k = some(6);
        boolean found = coin();
        switch (below(11)) {
            case 0: return same("cause()", x.cause(), m.cause());
            case 1: return same("told(" + value + ", " + k + ")", x.told(value, k), m.told(value, k));
            case 2: return same("part(" + value + ", " + k + ")", x.part(value, k), m.part(value, k));
            case 3: return same("equal(" + value + ", " + other + ")", x.equal(value, other), m.equal(value, other));
            case 4: return same("written(" + value + ")", x.written(value), m.written(value)) && letters();
            case 5: return same("letter(" + k + ")", x.letter(k), m.letter(k));
            case 6: return all(place, mark);
            case 7: return of(place, mark, k);
            case 8: return same("stands(" + place + ")", x.stands(place), m.stands(place));
            case 9: return same("count(" + (k + mark * 4) + ")", x.count(k + mark * 4), m.count(k + mark * 4));
            default: return ask(place, mark, found);
        }
    }

    /** What is asked of the first MARKS at the first PLACES: with the calls before, but for letter(), below 512. */
    private boolean lastLook() {
        boolean right = true;
        for (int place = 0; place < 6; place++) {
            for (int mark = 0; mark < 3; mark++) {
                right = right && ask(place, mark, false) && ask(place, mark, true) && all(place, mark)
                    && of(place, mark, 0) && of(place, mark, 1);
            }
        }
        return right;
    }

    private boolean ask(int place, int mark, boolean found) {
        return same("ask(" + place + ", " + mark + ", " + found + ")", x.ask(place, mark, found), m.ask(place, mark, found));
    }

    private boolean all(int place, int mark) {
        return same("all(" + place + ", " + mark + ")", x.all(place, mark), m.all(place, mark));
    }

    private boolean of(int place, int mark, int i) {
        return same("of(" + place + ", " + mark + ", " + i + ")", x.of(place, mark, i), m.of(place, mark, i));
    }

    private boolean letters() {
        for (int i = 0; i <= m.text.length(); i++) {
            if (x.letter(i) != m.letter(i)) {
                return same("letter(" + i + ")", x.letter(i), m.letter(i));
            }
        }
        return true;
    }
}
