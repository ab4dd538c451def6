/** Promises 1 to 5: a new object, mark, element, fallback, container. */
public final class MarksTest {
    private static final int NONE = MarkRules.NONE, BAD = MarkRules.BAD, FULL = MarkRules.FULL;
    private static final int STATE = MarkRules.STATE, FAILED = MarkRules.FAILED, RING = MarkRules.RING;
    private static final int MIN = Integer.MIN_VALUE, MAX = Integer.MAX_VALUE;
    private static final Check c = new Check("MarksTest");

    public static void main(String[] args) {
        c.promise(1);
        newObject();
        c.promise(2);
        mark();
        c.promise(3);
        elementNumbers();
        elementState();
        elementRing();
        elementFull();
        c.promise(4);
        fallbackNumbers();
        fallbackState();
        fallbackGives();
        fallbackFull();
        c.promise(5);
        containerRules();
        containerOfFive();
        containerOrder();
        c.end();
    }

    private static void newObject() {
        MarkRules x = new MarkRules();
        for (int what = 0; what <= 3; what++) {
            c.due("count(" + what + ")", x.count(what), 0);
        }
        for (int what = 11; what <= 13; what++) {
            c.due("count(" + what + ")", x.count(what), 0);
        }
        c.due("no MARK", x.count(20), BAD);
        c.due("no CONTAINER", x.count(40), BAD);
        c.due("cause", x.cause(), 0);
        c.due("letter", x.letter(0), NONE);
        c.due("no VALUE", x.told(0, 0), BAD);
        c.due("no PLACE", x.stands(0), BAD);
        MarkRules y = new MarkRules();
        y.mark(1, 2, false);
        c.due("objects share nothing", x.count(0), 0);
    }

    private static void mark() {
        MarkRules x = new MarkRules();
        c.due("targets -1", x.mark(-1, 0, false), BAD);
        c.due("targets 32", x.mark(32, 0, false), BAD);
        c.due("targets least", x.mark(MIN, 0, false), BAD);
        c.due("keep -1", x.mark(0, -1, false), BAD);
        c.due("keep 3", x.mark(0, 3, false), BAD);
        c.due("bad ones make none", x.count(0), 0);
        for (int m = 0; m < 12; m++) {
            c.due("mark " + m, x.mark(m % 2 == 0 ? 0 : 31, m % 3, m % 2 == 0), m);
        }
        c.due("the 13th", x.mark(1, 1, false), FULL);
        c.due("BAD ahead of FULL", x.mark(32, 1, false), BAD);
        c.due("count", x.count(0), 12);
    }

    private static void elementNumbers() {
        MarkRules x = new MarkRules();
        c.due("no MARK yet", x.element(0, 0, 0, false), BAD);
        x.mark(1, 0, false);
        x.mark(1, 0, false);
        c.due("mark -1", x.element(-1, 0, 0, false), BAD);
        c.due("mark 2", x.element(2, 0, 0, false), BAD);
        c.due("name -1", x.element(0, -1, 0, false), BAD);
        c.due("name 10", x.element(0, 10, 0, false), BAD);
        int[] wrongKinds = {-1, 4, 9, 12, 22, MIN, MIN + 9, MIN + 10, MAX};
        for (int kind : wrongKinds) {
            c.due("kind " + kind, x.element(0, 0, kind, false), BAD);
        }
        c.due("name 9", x.element(0, 9, 3, false), 1);
        c.due("name 0", x.element(0, 0, 11, true), 2);
        c.due("name 0 again", x.element(0, 0, 1, false), BAD);
        c.due("name 0 of another", x.element(1, 0, 1, false), 1);
        c.due("kind 2", x.element(0, 5, 2, true), 3);
    }

    private static void elementState() {
        MarkRules x = new MarkRules();
        x.mark(1, 0, false);
        x.mark(1, 0, false);
        x.element(0, 1, 0, false);
        x.element(1, 0, 10, true);
        x.instance(0);
        c.due("an INSTANCE is there", x.element(0, 2, 0, false), STATE);
        c.due("BAD ahead of STATE", x.element(0, 1, 0, false), BAD);
        c.due("STATE ahead of RING", x.element(0, 2, 10, false), STATE);
        c.due("none of the other", x.element(1, 2, 10, false), 2);
        MarkRules y = new MarkRules();
        y.mark(1, 0, false);
        y.mark(1, 0, false);
        y.element(1, 0, 10, true);
        c.due("container", y.container(0, 1), 1);
        c.due("it has a CONTAINER", y.element(0, 2, 0, false), STATE);
        c.due("it is a CONTAINER", y.element(1, 2, 0, false), STATE);
    }

    private static void elementRing() {
        MarkRules x = new MarkRules();
        for (int m = 0; m < 6; m++) {
            x.mark(1, 0, false);
        }
        c.due("to itself", x.element(0, 0, 10, false), RING);
        c.due("1 to 0", x.element(1, 0, 10, false), 1);
        c.due("0 to 1", x.element(0, 0, 11, true), RING);
        c.due("2 to 1", x.element(2, 0, 11, false), 1);
        c.due("0 to 2, the long way round", x.element(0, 0, 12, false), RING);
        c.due("3 to 2, of DEPTH 3", x.element(3, 0, 12, false), RING);
        c.due("3 to 1, of DEPTH 2", x.element(3, 0, 11, false), 1);
        c.due("4 to 5", x.element(4, 0, 15, false), 1);
        c.due("0 to 5: 2 would have DEPTH 3", x.element(0, 0, 15, false), RING);
        c.due("1 to 5 is fine", x.element(1, 1, 15, false), 2);
        c.due("5 to 0: 4 over 5 has DEPTH 2, 2 over 1 over 5 has 3", x.element(5, 0, 10, false), RING);
        c.due("1 to 0 again", x.element(1, 2, 10, true), 3);
        c.due("a refused one is not there", x.count(20), 0);
        c.due("0 may still have a plain one", x.element(0, 0, 0, false), 1);
    }

    private static void elementFull() {
        MarkRules x = new MarkRules();
        x.mark(1, 0, false);
        x.mark(1, 0, false);
        for (int name = 0; name < 5; name++) {
            c.due("element " + name, x.element(0, name, 0, false), name + 1);
        }
        c.due("the 6th", x.element(0, 5, 0, false), FULL);
        c.due("BAD ahead of FULL", x.element(0, 4, 0, false), BAD);
        c.due("RING ahead of FULL", x.element(0, 5, 10, false), RING);
        c.due("a MARK as KIND is refused too", x.element(0, 5, 11, false), FULL);
        c.due("and then 0 does not lead to 1", x.element(1, 0, 10, false), 1);
        x.instance(0);
        c.due("STATE ahead of FULL", x.element(0, 5, 0, false), STATE);
        c.due("count", x.count(20), 5);
    }

    private static void fallbackNumbers() {
        MarkRules x = new MarkRules();
        x.mark(1, 0, false);
        x.element(0, 7, 0, false);
        int number = x.value(0, 5);
        c.due("mark -1", x.fallback(-1, 7, number), BAD);
        c.due("mark 1", x.fallback(1, 7, number), BAD);
        c.due("a NAME it has not", x.fallback(0, 0, number), BAD);
        c.due("name -1", x.fallback(0, -1, number), BAD);
        c.due("no VALUE", x.fallback(0, 7, 1), BAD);
        c.due("value -2", x.fallback(0, 7, -2), BAD);
        c.due("nothing failed", x.count(11) + x.count(12), 0);
        c.due("NONE", x.fallback(0, 7, NONE), FAILED);
        c.due("NULL", x.cause(), 1);
        c.due("another KIND", x.fallback(0, 7, x.value(1, 5)), FAILED);
        c.due("CAST", x.cause(), 2);
        c.due("a ROW for none", x.fallback(0, 7, x.row(0)), FAILED);
        c.due("of its KIND", x.fallback(0, 7, number), 1);
        c.due("cause is gone", x.cause(), 0);
        c.due("in place of it", x.fallback(0, 7, x.value(0, 6)), 1);
        c.due("the latest counts", x.told(x.part(x.instance(0), 7), 2), 6);
    }

    private static void fallbackState() {
        MarkRules x = new MarkRules();
        for (int m = 0; m < 4; m++) {
            x.mark(1, 0, false);
        }
        x.element(0, 1, 0, false);
        x.element(1, 0, 10, true);
        x.element(2, 0, 11, false);
        x.element(2, 1, 0, true);
        x.element(3, 0, 0, false);
        int hollow = x.instance(0);
        c.due("an INSTANCE is there", x.fallback(0, 1, x.value(0, 1)), STATE);
        c.due("STATE ahead of NULL", x.fallback(0, 1, NONE), STATE);
        c.due("not WHOLE", x.fallback(1, 0, hollow), STATE);
        c.due("not WHOLE ahead of CAST", x.fallback(2, 1, hollow), STATE);
        int row = x.row(10);
        x.push(row, hollow);
        c.due("a ROW that is not WHOLE", x.fallback(1, 0, row), STATE);
        int done = x.row(0);
        c.due("a ROW", x.fallback(2, 1, done), 1);
        c.due("it is DONE", x.told(done, 3), 1);
        c.due("a ROW that is DONE", x.fallback(2, 1, done), STATE);
        c.due("DONE ahead of CAST", x.fallback(3, 0, done), STATE);
        c.due("a VALUE is never DONE", x.fallback(3, 0, x.value(0, 3)), 1);
        c.due("container", x.container(0, 1), 1);
        c.due("it is a CONTAINER", x.fallback(1, 0, x.row(10)), STATE);
        MarkRules y = new MarkRules();
        y.mark(1, 0, false);
        y.mark(1, 0, false);
        y.element(0, 1, 0, false);
        y.element(1, 0, 10, true);
        y.container(0, 1);
        c.due("it has a CONTAINER", y.fallback(0, 1, y.value(0, 1)), STATE);
    }

    private static void fallbackGives() {
        MarkRules x = new MarkRules();
        x.mark(1, 0, false);
        x.mark(1, 0, false);
        x.element(1, 0, 10, true);
        x.element(1, 1, 10, false);
        x.element(1, 2, 0, true);
        int a = x.instance(0);
        c.due("one INSTANCE for a ROW", x.fallback(1, 0, a), 1);
        c.due("the ROW is new", x.count(2), 2);
        c.due("the ROW is DONE", x.told(1, 3), 1);
        c.due("the INSTANCE is DONE", x.told(a, 3), 1);
        c.due("it is in the ROW", x.part(1, 0), a);
        int b = x.instance(0);
        c.due("an INSTANCE", x.fallback(1, 1, b), 1);
        c.due("is DONE", x.told(b, 3), 1);
        c.due("and goes nowhere else", x.fallback(1, 1, b), STATE);
        c.due("a ROW of another KIND", x.fallback(1, 2, x.row(1)), FAILED);
        c.due("CAST", x.cause(), 2);
        c.due("an INSTANCE for a NUMBER", x.fallback(1, 2, x.instance(0)), FAILED);
        c.due("and is not DONE by that", x.told(x.count(2) - 1, 3), 0);
        int i = x.instance(1);
        c.due("DEFAULT 0", x.part(i, 0), 1);
        c.due("DEFAULT 1", x.part(i, 1), b);
        c.due("no DEFAULT", x.part(i, 2), NONE);
    }

    private static void fallbackFull() {
        MarkRules x = new MarkRules();
        x.mark(1, 0, false);
        x.element(0, 0, 0, true);
        x.element(0, 1, 0, false);
        int row = x.row(0);
        int word = x.value(1, 0);
        for (int v = 2; v < 100; v++) {
            x.value(0, v);
        }
        c.due("the 101st VALUE", x.fallback(0, 0, 5), FULL);
        c.due("no ROW needed", x.fallback(0, 1, 5), 1);
        c.due("CAST needs none", x.fallback(0, 0, word), FAILED);
        c.due("nor NULL", x.fallback(0, 0, NONE), FAILED);
        c.due("FULL leaves the cause", x.fallback(0, 0, 5), FULL);
        c.due("cause", x.cause(), 1);
        c.due("a ROW needs none", x.fallback(0, 0, row), 1);
        c.due("count", x.count(2), 100);
    }

    /** MARK 0 with its CONTAINER to be, 1: ELEMENT 0 is a ROW of it, ELEMENT 4 a NUMBER with a DEFAULT. */
    private static MarkRules pair(int targets0, int keep0, boolean inherited0, int targets1, int keep1, boolean inherited1) {
        MarkRules x = new MarkRules();
        x.mark(targets0, keep0, inherited0);
        x.mark(targets1, keep1, inherited1);
        x.element(1, 4, 0, false);
        x.element(1, 0, 10, true);
        x.fallback(1, 4, x.value(0, 1));
        return x;
    }

    private static void containerRules() {
        c.due("alike", pair(3, 1, true, 3, 1, true).container(0, 1), 1);
        c.due("KEEP greater", pair(3, 1, true, 3, 2, true).container(0, 1), 1);
        c.due("KEEP less", pair(3, 2, true, 3, 1, true).container(0, 1), 0);
        c.due("TARGETS fewer", pair(3, 1, true, 2, 1, true).container(0, 1), 1);
        c.due("TARGETS none", pair(3, 1, true, 0, 1, true).container(0, 1), 1);
        c.due("TARGETS more", pair(3, 1, true, 7, 1, true).container(0, 1), 0);
        c.due("TARGETS others", pair(3, 1, true, 4, 1, true).container(0, 1), 0);
        c.due("INHERITED is not", pair(3, 1, true, 3, 1, false).container(0, 1), 0);
        c.due("INHERITED alone is", pair(3, 1, false, 3, 1, true).container(0, 1), 1);
        MarkRules x = new MarkRules();
        for (int m = 0; m < 6; m++) {
            x.mark(1, 0, false);
        }
        x.element(1, 1, 10, true);
        x.fallback(1, 1, x.row(10));
        c.due("the ROW has another NAME", x.container(0, 1), 0);
        x.element(2, 0, 10, false);
        c.due("no ROW", x.container(0, 2), 0);
        x.element(3, 0, 11, true);
        c.due("a ROW of another MARK", x.container(0, 3), 0);
        x.element(4, 0, 0, true);
        c.due("a ROW of NUMBERS", x.container(0, 4), 0);
        c.due("no ELEMENTS", x.container(0, 5), 0);
        x.element(5, 0, 10, true);
        x.element(5, 1, 0, false);
        c.due("another without DEFAULT", x.container(0, 5), 0);
        c.due("itself", x.container(0, 0), 0);
        c.due("none yet", x.count(40), NONE);
        x.fallback(5, 1, x.value(0, 0));
        x.fallback(5, 0, x.row(10));
        c.due("ELEMENT 0 may have a DEFAULT too", x.container(0, 5), 1);
        c.due("CONTAINER", x.count(40), 5);
        c.due("only of that MARK", x.count(45), NONE);
    }

    /** What lies behind the last ELEMENT of a MARK is another MARK's. */
    private static void containerOfFive() {
        MarkRules x = new MarkRules();
        for (int m = 0; m < 3; m++) {
            x.mark(1, 0, false);
        }
        x.element(1, 0, 10, true);
        for (int name = 1; name < 5; name++) {
            x.element(1, name, 0, false);
            c.due("without DEFAULT", x.container(0, 1), 0);
            x.fallback(1, name, x.value(0, name));
        }
        x.element(2, 7, 0, false);
        c.due("all have a DEFAULT", x.container(0, 1), 1);
    }

    private static void containerOrder() {
        MarkRules x = pair(31, 2, false, 31, 2, false);
        c.due("m -1", x.container(-1, 1), BAD);
        c.due("m 2", x.container(2, 1), BAD);
        c.due("c -1", x.container(0, -1), BAD);
        c.due("c 2", x.container(0, 2), BAD);
        x.place(0, NONE);
        int a = x.instance(0);
        c.due("put is 1", x.put(0, a), 1);
        c.due("an INSTANCE was put", x.container(0, 1), STATE);
        c.due("STATE ahead of 0", x.container(0, 0), STATE);
        MarkRules y = pair(31, 2, false, 31, 2, false);
        y.instance(0);
        y.instance(1);
        c.due("INSTANCES that were not put", y.container(0, 1), 1);
        c.due("it has one", y.container(0, 1), STATE);
        c.due("it has one, another is told", y.container(0, 0), STATE);
        c.due("BAD ahead of STATE", y.container(0, 2), BAD);
        MarkRules z = pair(31, 2, false, 31, 2, false);
        z.place(0, NONE);
        int b = z.instance(1);
        z.give(b, 0, z.row(10));
        c.due("put of c", z.put(0, b), 1);
        c.due("an INSTANCE of c was put", z.container(0, 1), 1);
    }
}
