/** Promises 19 to 21 and 23: ask, all, of, count. */
public final class AskingTest {
    private static final int NONE = MarkRules.NONE, BAD = MarkRules.BAD;
    private static final Check c = new Check("AskingTest");

    public static void main(String[] args) {
        c.promise(19);
        askNumbers();
        askOwn();
        askSeveral();
        askKeep();
        askFound();
        askFoundFar();
        c.promise(20);
        allNumbers();
        allHere();
        allByContainer();
        allInherited();
        allOfContainer();
        c.promise(21);
        ofNumbers();
        ofOrder();
        ofInherited();
        c.promise(23);
        count();
        c.end();
    }

    /** CLASS 0, CLASS 1 below it, CLASS 2 below that, FACE 3, METHOD 4 of CLASS 1. */
    private static MarkRules family() {
        MarkRules x = new MarkRules();
        x.place(0, NONE);
        x.place(0, 0);
        x.place(0, 1);
        x.place(1, NONE);
        x.place(3, 1);
        return x;
    }

    /** MARK 0 and its CONTAINER, MARK 1. */
    private static MarkRules familyWithPair(int keep0, boolean inherited0, int keep1, boolean inherited1) {
        MarkRules x = family();
        x.mark(31, keep0, inherited0);
        x.mark(31, keep1, inherited1);
        x.element(1, 0, 10, true);
        c.due("container", x.container(0, 1), 1);
        return x;
    }

    private static int putNew(MarkRules x, int place, int mark) {
        int made = x.instance(mark);
        x.put(place, made);
        c.due("put", x.told(made, 3), 1);
        return made;
    }

    /** Puts a CONTAINER with a ROW of so many new INSTANCES of MARK 0, and answers the ROW. */
    private static int putBox(MarkRules x, int place, int howMany) {
        int row = x.row(10);
        for (int n = 0; n < howMany; n++) {
            x.push(row, x.instance(0));
        }
        int box = x.instance(1);
        x.give(box, 0, row);
        c.due("put of the CONTAINER", x.put(place, box), 1);
        return row;
    }

    private static void askNumbers() {
        MarkRules x = familyWithPair(2, true, 2, true);
        c.due("place -1", x.ask(-1, 0, false), BAD);
        c.due("place 5", x.ask(5, 0, true), BAD);
        c.due("mark -1", x.ask(0, -1, false), BAD);
        c.due("mark 2", x.ask(0, 2, true), BAD);
        c.due("none", x.ask(0, 0, false), NONE);
        c.due("none found", x.ask(2, 0, true), NONE);
    }

    private static void askOwn() {
        MarkRules x = familyWithPair(2, false, 2, false);
        int a = putNew(x, 0, 0);
        c.due("own", x.ask(0, 0, false), a);
        c.due("its CONTAINER, of one alone", x.ask(0, 1, false), NONE);
        c.due("elsewhere", x.ask(3, 0, false), NONE);
        putBox(x, 3, 2);
        int box = x.of(3, 1, 0);
        c.due("a CONTAINER that was put", x.ask(3, 1, false), box);
        c.due("is no OWN of its MARK", x.ask(3, 0, false), NONE);
        putBox(x, 4, 0);
        c.due("a CONTAINER with none", x.told(x.ask(4, 1, false), 1), 11);
    }

    private static void askSeveral() {
        MarkRules x = familyWithPair(2, false, 2, false);
        putNew(x, 0, 0);
        for (int n = 2; n <= 4; n++) {
            putNew(x, 0, 0);
            c.due("several: none", x.ask(0, 0, false), NONE);
            c.due("several: none found", x.ask(0, 0, true), NONE);
            c.due("by their CONTAINER", x.ask(0, 1, false), -100 - n);
            c.due("found by their CONTAINER", x.ask(0, 1, true), -100 - n);
        }
        c.due("it does not stand", x.stands(0), 4);
        c.due("it is no VALUE", x.count(2), 4);
    }

    private static void askKeep() {
        for (int keep = 0; keep <= 1; keep++) {
            MarkRules x = familyWithPair(keep, true, 2, true);
            putNew(x, 0, 0);
            c.due("KEEP " + keep, x.ask(0, 0, false), NONE);
            c.due("KEEP " + keep + ", found", x.ask(1, 0, true), NONE);
            putNew(x, 0, 0);
            c.due("KEEP of the MARK counts for its CONTAINER", x.ask(0, 1, false), NONE);
            c.due("and when it is found", x.ask(1, 1, true), NONE);
            putBox(x, 3, 1);
            c.due("a CONTAINER that was put", x.ask(3, 1, false) >= 0 ? 1 : 0, 1);
        }
        MarkRules y = familyWithPair(1, false, 1, false);
        putNew(y, 0, 0);
        putNew(y, 0, 0);
        c.due("neither is RUN", y.ask(0, 1, false), NONE);
    }

    private static void askFound() {
        MarkRules x = familyWithPair(2, true, 2, true);
        int top = putNew(x, 0, 0);
        c.due("at the PARENT", x.ask(1, 0, true), top);
        c.due("at the PARENT's PARENT", x.ask(2, 0, true), top);
        c.due("not OWN", x.ask(2, 0, false), NONE);
        c.due("not of a METHOD", x.ask(4, 0, true), NONE);
        c.due("not of a FACE", x.ask(3, 0, true), NONE);
        int middle = putNew(x, 1, 0);
        c.due("the nearer", x.ask(2, 0, true), middle);
        c.due("OWN first", x.ask(1, 0, true), middle);
        putNew(x, 1, 0);
        c.due("several are no OWN, so the PARENT's", x.ask(1, 0, true), top);
        c.due("and below", x.ask(2, 0, true), top);
        c.due("CONTAINER below", x.ask(2, 1, true), -102);
        MarkRules y = familyWithPair(2, false, 2, true);
        putNew(y, 0, 0);
        c.due("not INHERITED", y.ask(1, 0, true), NONE);
        putNew(y, 0, 0);
        c.due("its CONTAINER is INHERITED", y.ask(1, 1, true), -102);
    }

    private static void askFoundFar() {
        MarkRules x = new MarkRules();
        for (int p = 0; p < 40; p++) {
            x.place(0, p - 1);
        }
        x.mark(1, 2, true);
        int top = putNew(x, 0, 0);
        c.due("39 above", x.ask(39, 0, true), top);
        c.due("all", x.all(39, 0), 1);
        c.due("of", x.of(39, 0, 0), top);
    }

    private static void allNumbers() {
        MarkRules x = familyWithPair(2, true, 2, true);
        c.due("place -1", x.all(-1, 0), BAD);
        c.due("place 5", x.all(5, 0), BAD);
        c.due("mark -1", x.all(0, -1), BAD);
        c.due("mark 2", x.all(0, 2), BAD);
        c.due("none", x.all(2, 0), 0);
        MarkRules y = familyWithPair(1, true, 2, true);
        putNew(y, 0, 0);
        putBox(y, 3, 2);
        c.due("KEEP is not RUN", y.all(0, 0), 0);
        c.due("nor by its CONTAINER", y.all(3, 0), 0);
        c.due("nor of it", y.of(0, 0, 0), NONE);
        c.due("nor of its ROW", y.of(3, 0, 0), NONE);
        c.due("the CONTAINER itself", y.all(3, 1), 1);
    }

    private static void allHere() {
        MarkRules x = familyWithPair(2, true, 2, true);
        putNew(x, 0, 0);
        for (int n = 1; n <= 4; n++) {
            putNew(x, 1, 0);
            c.due("here", x.all(1, 0), n);
            c.due("below", x.all(2, 0), n);
        }
        c.due("above", x.all(0, 0), 1);
    }

    private static void allByContainer() {
        MarkRules x = familyWithPair(2, true, 2, true);
        int row = putBox(x, 1, 3);
        c.due("in the ROW", x.all(1, 0), 3);
        c.due("below", x.all(2, 0), 3);
        c.due("the first", x.of(1, 0, 0), x.part(row, 0));
        c.due("the last", x.of(2, 0, 2), x.part(row, 2));
        c.due("behind it", x.of(2, 0, 3), NONE);
        c.due("before it", x.of(2, 0, -1), NONE);
        c.due("not above", x.all(0, 0), 0);
        c.due("not of a METHOD", x.all(4, 0), 0);
        MarkRules y = family();
        y.mark(31, 2, false);
        y.mark(31, 2, false);
        y.element(1, 0, 10, true);
        int only = y.instance(0);
        y.fallback(1, 0, only);
        y.container(0, 1);
        putNew(y, 0, 1);
        c.due("a ROW by DEFAULT", y.all(0, 0), 1);
        c.due("its VALUE", y.of(0, 0, 0), only);
    }

    private static void allInherited() {
        MarkRules x = familyWithPair(2, true, 2, true);
        int top = putNew(x, 0, 0);
        putBox(x, 1, 0);
        c.due("an empty ROW, so the PARENT's", x.all(1, 0), 1);
        c.due("which is", x.of(1, 0, 0), top);
        MarkRules y = familyWithPair(2, false, 2, true);
        putBox(y, 0, 2);
        c.due("not INHERITED", y.all(1, 0), 0);
        c.due("none of it", y.of(1, 0, 0), NONE);
        c.due("where it is", y.all(0, 0), 2);
    }

    private static void allOfContainer() {
        MarkRules x = familyWithPair(2, true, 2, true);
        putNew(x, 0, 0);
        putNew(x, 0, 0);
        c.due("a CONTAINER that nobody put does not stand", x.all(0, 1), 0);
        c.due("none of it", x.of(0, 1, 0), NONE);
        MarkRules y = family();
        for (int m = 0; m < 3; m++) {
            y.mark(31, 2, true);
        }
        y.element(1, 0, 10, true);
        y.element(2, 0, 11, true);
        y.container(1, 2);
        y.container(0, 1);
        putBox(y, 0, 1);
        c.due("one CONTAINER", y.all(0, 0), 1);
        int box = y.instance(1);
        y.give(box, 0, y.instance(0));
        c.due("a second", y.put(0, box), 2);
        c.due("several CONTAINERS are no OWN", y.all(0, 0), 0);
        c.due("but are ALL OF themselves", y.all(1, 1), 2);
        c.due("by their own CONTAINER", y.ask(1, 2, true), -102);
        putNew(y, 3, 0);
        putNew(y, 3, 0);
        c.due("one CONTAINER up", y.ask(3, 1, false), -102);
        c.due("not two up", y.ask(3, 2, false), NONE);
    }

    private static void ofNumbers() {
        MarkRules x = familyWithPair(2, true, 2, true);
        int a = putNew(x, 0, 0);
        c.due("place -1", x.of(-1, 0, 0), BAD);
        c.due("place 5", x.of(5, 0, 0), BAD);
        c.due("mark -1", x.of(0, -1, 0), BAD);
        c.due("mark 2", x.of(0, 2, 0), BAD);
        c.due("the first", x.of(0, 0, 0), a);
        c.due("i -1", x.of(0, 0, -1), NONE);
        c.due("i 1", x.of(0, 0, 1), NONE);
        c.due("i MAX", x.of(0, 0, Integer.MAX_VALUE), NONE);
        c.due("i MIN", x.of(0, 0, Integer.MIN_VALUE), NONE);
    }

    private static void ofOrder() {
        MarkRules x = familyWithPair(2, true, 2, true);
        int first = x.instance(0);
        int second = x.instance(0);
        int third = x.instance(0);
        x.put(0, third);
        x.put(3, x.instance(0));
        x.put(0, first);
        x.put(0, second);
        c.due("put first", x.of(0, 0, 0), third);
        c.due("put second", x.of(0, 0, 1), first);
        c.due("put third", x.of(0, 0, 2), second);
        c.due("no fourth", x.of(0, 0, 3), NONE);
    }

    private static void ofInherited() {
        MarkRules x = familyWithPair(2, true, 2, true);
        int top = putNew(x, 0, 0);
        putNew(x, 0, 0);
        int below = putNew(x, 2, 0);
        c.due("at the PARENT", x.of(1, 0, 0), top);
        c.due("here alone", x.of(2, 0, 0), below);
        c.due("not both", x.of(2, 0, 1), NONE);
    }

    private static void count() {
        MarkRules x = familyWithPair(2, true, 2, true);
        int[] wrong = {-1, 4, 5, 10, 14, 19, 22, 31, 32, 39, 42, 51, 52, Integer.MIN_VALUE, Integer.MIN_VALUE + 20,
            Integer.MIN_VALUE + 39, Integer.MAX_VALUE};
        for (int what : wrong) {
            c.due("what " + what, x.count(what), BAD);
        }
        putBox(x, 0, 1);
        x.push(x.row(0), NONE);
        x.give(x.instance(1), 0, x.value(0, 0));
        x.push(x.row(0), x.value(1, 1));
        x.push(x.row(0), x.value(1, 1));
        c.due("MARKS", x.count(0), 2);
        c.due("PLACES", x.count(1), 5);
        c.due("VALUES", x.count(2), 10);
        c.due("INSTANCES put", x.count(3), 1);
        c.due("NULL", x.count(11), 1);
        c.due("CAST", x.count(12), 1);
        c.due("STORE", x.count(13), 2);
        c.due("ELEMENTS of 0", x.count(20), 0);
        c.due("ELEMENTS of 1", x.count(21), 1);
        c.due("CONTAINER of 0", x.count(40), 1);
        c.due("CONTAINER of 1", x.count(41), NONE);
        for (int m = 2; m < 12; m++) {
            x.mark(0, 0, false);
        }
        c.due("ELEMENTS of 11", x.count(31), 0);
        c.due("CONTAINER of 11", x.count(51), NONE);
    }
}
