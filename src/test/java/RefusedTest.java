import java.util.ArrayList;
import java.util.List;

/**
 * "Of several the one told first with the call; nothing changes then." Two objects come by the same calls; one of
 * them refuses a call more. After that both have to answer alike, to questions and to further work. As an object is
 * used for 512 calls at most, each piece of the questions goes to two new objects.
 */
public final class RefusedTest {
    private static final int NONE = MarkRules.NONE, BAD = MarkRules.BAD, FULL = MarkRules.FULL;
    private static final int STATE = MarkRules.STATE, FAILED = MarkRules.FAILED, RING = MarkRules.RING;
    private static final int PIECE = 250;
    private static final Check c = new Check("RefusedTest");

    private interface Call {
        int on(MarkRules x);
    }

    private interface Maker {
        MarkRules make();
    }

    public static void main(String[] args) {
        refusedByANewOne();
        refusedByMarks();
        refusedByValues();
        refusedByPlaces();
        refusedWhenCrowded();
        failed();
        c.end();
    }

    /** Every MARK, PLACE and VALUE that an object may have, and what is counted of them. */
    private static List<Call> questions(boolean withFailures) {
        List<Call> all = new ArrayList<>();
        for (int what = 0; what <= 55; what++) {
            int w = what;
            if (withFailures || w < 11 || w > 13) {
                all.add(x -> x.count(w));
            }
        }
        if (withFailures) {
            all.add(x -> x.cause());
        }
        for (int value = 0; value < 100; value++) {
            int v = value;
            for (int what = 2; what <= 4; what++) {
                int w = what;
                all.add(x -> x.told(v, w));
            }
        }
        for (int value = 0; value < 24; value++) {
            int v = value;
            for (int k = 0; k <= 4; k++) {
                int part = k;
                all.add(x -> x.part(v, part));
            }
        }
        for (int place = 0; place < 7; place++) {
            int p = place;
            all.add(x -> x.stands(p));
            for (int mark = 0; mark < 10; mark++) {
                int m = mark;
                all.add(x -> x.ask(p, m, true));
                all.add(x -> x.all(p, m));
                all.add(x -> x.of(p, m, 1));
            }
        }
        for (int i = 0; i < 20; i++) {
            int at = i;
            all.add(x -> x.letter(at));
        }
        return all;
    }

    private static void refuses(String what, Maker maker, Call call, int due) {
        List<Call> questions = questions(due != FAILED);
        for (int from = 0; from < questions.size(); from += PIECE) {
            MarkRules without = maker.make();
            MarkRules with = maker.make();
            c.due(what, call.on(with), due);
            for (int q = from; q < Math.min(from + PIECE, questions.size()); q++) {
                c.due(what + ", then question " + q, questions.get(q).on(with), questions.get(q).on(without));
            }
        }
        MarkRules without = maker.make();
        MarkRules with = maker.make();
        call.on(with);
        call.on(with);
        List<Call> work = work();
        for (int w = 0; w < work.size(); w++) {
            c.due(what + ", then work " + w, work.get(w).on(with), work.get(w).on(without));
        }
    }

    /** Calls that no question stands for: their answers would be others if something hidden had changed. */
    private static List<Call> work() {
        List<Call> all = new ArrayList<>();
        all.add(x -> x.element(2, 9, 0, false));
        all.add(x -> x.element(8, 5, 0, false));
        all.add(x -> x.element(8, 6, 12, false));
        all.add(x -> x.element(8, 7, 13, true));
        all.add(x -> x.element(6, 1, 18, false));
        all.add(x -> x.fallback(9, 0, x.row(18)));
        all.add(x -> x.container(8, 9));
        all.add(x -> x.fallback(2, 0, 1));
        all.add(x -> x.fallback(2, 4, 7));
        all.add(x -> x.push(8, 5));
        all.add(x -> x.push(7, 1));
        all.add(x -> x.push(6, 1));
        all.add(x -> x.give(10, 0, 1));
        all.add(x -> x.give(17, 0, 8));
        all.add(x -> x.put(0, 12));
        all.add(x -> x.put(1, 12));
        all.add(x -> x.put(0, 15));
        all.add(x -> x.put(3, 15));
        all.add(x -> x.put(2, 17));
        all.add(x -> x.put(4, 17));
        all.add(x -> x.put(1, 10));
        all.add(x -> x.mark(1, 1, true));
        all.add(x -> x.place(5, 4));
        all.add(x -> x.value(1, 3));
        all.add(x -> x.row(10));
        all.add(x -> x.instance(9));
        all.add(x -> x.count(2));
        all.add(x -> x.ask(0, 1, false));
        all.add(x -> x.all(3, 0));
        all.add(x -> x.stands(0));
        all.add(x -> x.written(15));
        all.add(x -> x.letter(3));
        return all;
    }

    /**
     * MARK 0 in CONTAINER 1; 2 without INSTANCES, 3 with five ELEMENTS, 4 that stands once at a CLASS; 6 leads to 5,
     * 5 to 2; 7 at METHODS alone; 8 and 9 that could be a pair.
     */
    private static MarkRules withMarks() {
        MarkRules x = new MarkRules();
        x.mark(31, 2, true);
        x.mark(31, 2, true);
        x.mark(1, 0, false);
        x.mark(1, 2, false);
        x.mark(1, 2, true);
        x.mark(1, 2, false);
        x.mark(1, 1, false);
        x.mark(4, 2, false);
        x.mark(1, 2, false);
        x.mark(1, 2, false);
        x.element(0, 1, 0, false);
        x.element(0, 2, 1, true);
        x.element(1, 0, 10, true);
        x.element(1, 3, 2, false);
        x.element(2, 0, 0, false);
        x.element(2, 4, 0, true);
        for (int name = 0; name < 5; name++) {
            x.element(3, name, 0, false);
        }
        x.element(4, 0, 0, false);
        x.element(5, 0, 12, false);
        x.element(6, 0, 15, true);
        x.element(9, 0, 18, true);
        return x;
    }

    /** PLACES 0 CLASS, 1 CLASS below it, 2 FACE, 3 FIELD, 4 METHOD, 5 PARAMETER; the VALUES are told in the code. */
    private static MarkRules built() {
        MarkRules x = withMarks();
        x.place(0, NONE);
        x.place(0, 0);
        x.place(1, NONE);
        x.place(2, 0);
        x.place(3, 0);
        x.place(5, 4);
        x.value(2, 1);
        x.fallback(1, 3, 0);
        c.due("built: container", x.container(0, 1), 1);
        x.value(0, -7);
        x.value(1, 9);
        x.instance(0);
        x.give(3, 1, 1);
        x.give(3, 2, 2);
        c.due("built: 3 with ROW 4 is put", x.put(0, 3), 1);
        c.due("built: 5 is not WHOLE", x.instance(0), 5);
        c.due("built: 6 is a ROW of four", x.row(0), 6);
        for (int n = 0; n < 4; n++) {
            x.push(6, 1);
        }
        c.due("built: 7 is a ROW", x.row(0), 7);
        c.due("built: 8 is a ROW of MARK 0", x.row(10), 8);
        c.due("built: 9 is in it", x.instance(0), 9);
        x.push(8, 9);
        c.due("built: 10 is not WHOLE", x.instance(4), 10);
        c.due("built: 11 is put", x.instance(4), 11);
        x.give(11, 0, 1);
        x.put(0, 11);
        c.due("built: 12 is not put", x.instance(4), 12);
        x.give(12, 0, 1);
        c.due("built: 13 is a CONTAINER", x.instance(1), 13);
        c.due("built: 14 is its ROW", x.row(10), 14);
        x.give(13, 0, 14);
        c.due("built: 13 is put", x.put(2, 13), 1);
        c.due("built: 15 is not put", x.instance(0), 15);
        x.give(15, 1, 1);
        x.give(15, 2, 2);
        c.due("built: 17 is a CONTAINER without ROW", x.instance(1), 17);
        c.due("built: 18 is one with it", x.instance(1), 18);
        c.due("built: 19 is its ROW", x.row(10), 19);
        x.give(18, 0, 19);
        c.due("built: 20 is of MARK 7", x.instance(7), 20);
        x.push(7, NONE);
        c.due("built: written", x.written(3), 15);
        return x;
    }

    private static void refusedByANewOne() {
        Maker empty = MarkRules::new;
        c.promise(1);
        refuses("mark", empty, x -> x.mark(32, 0, true), BAD);
        refuses("element", empty, x -> x.element(0, 0, 0, false), BAD);
        refuses("fallback", empty, x -> x.fallback(0, 0, NONE), BAD);
        refuses("place", empty, x -> x.place(2, NONE), BAD);
        refuses("value", empty, x -> x.value(1, 100), BAD);
        refuses("row", empty, x -> x.row(10), BAD);
        refuses("push", empty, x -> x.push(0, NONE), BAD);
        refuses("instance", empty, x -> x.instance(0), BAD);
        refuses("give", empty, x -> x.give(0, 0, NONE), BAD);
        refuses("put", empty, x -> x.put(0, 0), BAD);
    }

    private static void refusedByMarks() {
        Maker built = RefusedTest::built;
        c.promise(2);
        refuses("TARGETS", built, x -> x.mark(-1, 0, true), BAD);
        refuses("KEEP", built, x -> x.mark(1, 3, true), BAD);
        c.promise(3);
        refuses("no MARK", built, x -> x.element(10, 0, 0, false), BAD);
        refuses("a NAME it has", built, x -> x.element(2, 0, 1, true), BAD);
        refuses("no KIND", built, x -> x.element(2, 1, 20, false), BAD);
        refuses("an INSTANCE is there", built, x -> x.element(4, 1, 0, false), STATE);
        refuses("it has a CONTAINER", built, x -> x.element(0, 0, 0, false), STATE);
        refuses("it is a CONTAINER", built, x -> x.element(1, 1, 0, false), STATE);
        refuses("to itself", built, x -> x.element(2, 1, 12, false), RING);
        refuses("to one that leads to it", built, x -> x.element(2, 1, 15, true), RING);
        refuses("DEPTH of one above it", built, x -> x.element(2, 1, 18, false), RING);
        refuses("DEPTH of its own", built, x -> x.element(8, 1, 16, false), RING);
        refuses("the 6th", built, x -> x.element(3, 5, 0, false), FULL);
        refuses("the 6th, of a MARK", built, x -> x.element(3, 5, 18, false), FULL);
        c.promise(4);
        refuses("no NAME", built, x -> x.fallback(2, 1, 1), BAD);
        refuses("no VALUE", built, x -> x.fallback(2, 0, 21), BAD);
        refuses("an INSTANCE is there", built, x -> x.fallback(4, 0, 1), STATE);
        refuses("it has a CONTAINER", built, x -> x.fallback(0, 1, 1), STATE);
        refuses("it is a CONTAINER", built, x -> x.fallback(1, 3, 0), STATE);
        refuses("DONE", built, x -> x.fallback(2, 4, 4), STATE);
        refuses("not WHOLE", built, x -> x.fallback(2, 4, 5), STATE);
        c.promise(5);
        refuses("no MARK", built, x -> x.container(8, 10), BAD);
        refuses("it has one", built, x -> x.container(0, 9), STATE);
        refuses("it was put", built, x -> x.container(4, 9), STATE);
        refuses("not as it has to be", built, x -> x.container(8, 2), 0);
        refuses("itself", built, x -> x.container(8, 8), 0);
    }

    private static void refusedByValues() {
        Maker built = RefusedTest::built;
        c.promise(7);
        refuses("KIND", built, x -> x.value(10, 0), BAD);
        refuses("v", built, x -> x.value(3, 3), BAD);
        c.promise(8);
        refuses("KIND", built, x -> x.row(20), BAD);
        c.promise(9);
        refuses("no ROW", built, x -> x.push(5, 1), BAD);
        refuses("no VALUE", built, x -> x.push(7, 21), BAD);
        refuses("the ROW is DONE", built, x -> x.push(4, 2), STATE);
        refuses("the VALUE is DONE", built, x -> x.push(8, 3), STATE);
        refuses("they are one", built, x -> x.push(7, 7), STATE);
        refuses("the 5th", built, x -> x.push(6, 1), FULL);
        refuses("the 5th, of NONE", built, x -> x.push(6, NONE), FULL);
        refuses("the 5th, of another KIND", built, x -> x.push(6, 5), FULL);
        c.promise(10);
        refuses("no MARK", built, x -> x.instance(10), BAD);
        c.promise(11);
        refuses("no INSTANCE", built, x -> x.give(7, 0, 1), BAD);
        refuses("no NAME", built, x -> x.give(5, 0, 1), BAD);
        refuses("no VALUE", built, x -> x.give(5, 1, 21), BAD);
        refuses("it is DONE", built, x -> x.give(9, 1, 1), STATE);
        refuses("the ELEMENT was given one", built, x -> x.give(12, 0, 1), STATE);
        refuses("the VALUE is DONE", built, x -> x.give(17, 0, 9), STATE);
        refuses("they are one", built, x -> x.give(17, 0, 17), STATE);
        c.promise(16);
        refuses("equal", built, x -> x.equal(0, 21), BAD);
        c.promise(17);
        refuses("written", built, x -> x.written(21), BAD);
    }

    private static void refusedByPlaces() {
        Maker built = RefusedTest::built;
        c.promise(6);
        refuses("kind", built, x -> x.place(6, 0), BAD);
        refuses("no CLASS", built, x -> x.place(0, 2), BAD);
        refuses("not NONE", built, x -> x.place(1, 0), BAD);
        refuses("no TYPE", built, x -> x.place(3, 4), BAD);
        refuses("no METHOD", built, x -> x.place(5, 3), BAD);
        c.promise(12);
        refuses("no PLACE", built, x -> x.put(6, 15), BAD);
        refuses("no INSTANCE", built, x -> x.put(0, 7), BAD);
        refuses("it is DONE", built, x -> x.put(1, 3), STATE);
        refuses("RULE 1", built, x -> x.put(3, 12), -11);
        refuses("RULE 1, of a MARK that never stood", built, x -> x.put(0, 20), -11);
        refuses("RULE 2", built, x -> x.put(1, 5), -12);
        refuses("RULE 3", built, x -> x.put(0, 12), -13);
        refuses("RULE 4", built, x -> x.put(2, 15), -14);
        refuses("RULE 5", built, x -> x.put(0, 18), -15);
        c.promise(19);
        refuses("no PLACE", built, x -> x.ask(6, 0, true), BAD);
        refuses("none is there", built, x -> x.ask(0, 1, true), NONE);
        c.promise(21);
        refuses("no MARK", built, x -> x.of(0, 10, 0), BAD);
    }

    /** As many MARKS, PLACES and VALUES as there may be, and four INSTANCES of MARK 0 at PLACE 3. */
    private static MarkRules crowded() {
        MarkRules x = built();
        x.mark(1, 0, false);
        x.mark(1, 0, false);
        for (int p = x.count(1); p < 40; p++) {
            x.place(0, NONE);
        }
        for (int n = 0; n < 4; n++) {
            int one = x.instance(0);
            x.give(one, 1, 1);
            x.give(one, 2, 2);
            c.due("crowded: put", x.put(3, one), n + 1);
        }
        for (int v = x.count(2); v < 100; v++) {
            x.value(0, v);
        }
        return x;
    }

    private static void refusedWhenCrowded() {
        Maker crowded = RefusedTest::crowded;
        c.promise(2);
        refuses("the 13th MARK", crowded, x -> x.mark(1, 0, false), FULL);
        c.promise(4);
        refuses("a DEFAULT's ROW", crowded, x -> x.fallback(2, 4, 1), FULL);
        c.promise(6);
        refuses("the 41st PLACE", crowded, x -> x.place(0, 39), FULL);
        c.promise(7);
        refuses("the 101st VALUE", crowded, x -> x.value(0, 0), FULL);
        c.promise(8);
        refuses("the 101st VALUE, a ROW", crowded, x -> x.row(10), FULL);
        c.promise(10);
        refuses("the 101st VALUE, an INSTANCE", crowded, x -> x.instance(8), FULL);
        c.promise(11);
        refuses("the ROW of a WORD", crowded, x -> x.give(5, 2, 2), FULL);
        refuses("the ROW of an INSTANCE", crowded, x -> x.give(17, 0, 15), FULL);
        c.promise(12);
        refuses("the 5th at a PLACE", crowded, x -> x.put(3, 15), FULL);
    }

    /** What FAILED changes nothing but the cause and how many FAILURES there were. */
    private static void failed() {
        Maker built = RefusedTest::built;
        c.promise(13);
        refuses("NULL of fallback", built, x -> x.fallback(2, 0, NONE), FAILED);
        refuses("CAST of fallback", built, x -> x.fallback(2, 0, 2), FAILED);
        refuses("CAST of fallback, a ROW", built, x -> x.fallback(2, 0, 7), FAILED);
        refuses("CAST of fallback, an INSTANCE", built, x -> x.fallback(2, 4, 15), FAILED);
        refuses("NULL of push", built, x -> x.push(7, NONE), FAILED);
        refuses("STORE of push", built, x -> x.push(7, 2), FAILED);
        refuses("STORE of push, an INSTANCE", built, x -> x.push(8, 12), FAILED);
        refuses("STORE of push, a ROW", built, x -> x.push(7, 6), FAILED);
        refuses("NULL of give", built, x -> x.give(5, 1, NONE), FAILED);
        refuses("CAST of give", built, x -> x.give(5, 1, 2), FAILED);
        refuses("CAST of give, a ROW", built, x -> x.give(5, 1, 7), FAILED);
        refuses("CAST of give, an INSTANCE", built, x -> x.give(5, 2, 15), FAILED);
    }
}
