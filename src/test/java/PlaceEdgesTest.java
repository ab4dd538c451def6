/** The boundary cases of parts 2, 4 and 5 of the document and of promises 12 and 19 to 23, each below its sentence. */
public final class PlaceEdgesTest {
    private static final int NONE = MarkRules.NONE, BAD = MarkRules.BAD, FULL = MarkRules.FULL;
    private static final int STATE = MarkRules.STATE;
    private static final int MIN = Integer.MIN_VALUE, MAX = Integer.MAX_VALUE;
    private static final int[] FAR = {MIN, MIN + 1, -100, -2, -1, 40, 41, 100, MAX - 1, MAX};
    private static final Check c = new Check("PlaceEdgesTest");

    public static void main(String[] args) {
        c.promise(12);
        putOfNothing();
        whereAMarkMayStand();
        notWhole();
        standsAlready();
        containerStands();
        containerBesideItsMark();
        fourOfAMark();
        firstRuleFirst();
        stateAheadOfTheRules();
        c.promise(19);
        askOfNothing();
        oneOrSeveral();
        severalInTheirContainer();
        keepRun();
        foundAtTheParent();
        noParentButOfAClass();
        foundThroughForty();
        c.promise(20);
        allOfNothing();
        allHereFirst();
        allOfTheRow();
        allOfAnEmptyRow();
        allOfSeveralContainers();
        allOfAContainerThatNobodyPut();
        c.promise(21);
        ofNothing();
        ofTheLast();
        c.promise(22);
        standsOfNothing();
        standsOfAnyKeep();
        standsFull();
        c.promise(23);
        countOfNothing();
        countOfTwelve();
        countOfTheRefused();
        c.end();
    }

    /** PLACES 0 .. 5, each of the kind of its number, and CLASS 6 below CLASS 0. */
    private static MarkRules withPlaces() {
        MarkRules x = new MarkRules();
        x.place(0, NONE);
        x.place(1, NONE);
        x.place(2, 0);
        x.place(3, 0);
        x.place(4, 0);
        x.place(5, 3);
        x.place(0, 0);
        return x;
    }

    /** MARK 0 in its CONTAINER, MARK 1, that has an empty ROW by DEFAULT. */
    private static MarkRules withPair(int keep0, boolean inherited0, int keep1, boolean inherited1) {
        MarkRules x = withPlaces();
        x.mark(31, keep0, inherited0);
        x.mark(31, keep1, inherited1);
        x.element(1, 0, 10, true);
        x.fallback(1, 0, x.row(10));
        c.due("container", x.container(0, 1), 1);
        return x;
    }

    private static int putNew(MarkRules x, int place, int mark) {
        int made = x.instance(mark);
        c.due("put of MARK " + mark + " at " + place, x.put(place, made) > 0 ? 1 : 0, 1);
        return made;
    }

    /** Puts MARK 1 with a ROW of so many new INSTANCES of MARK 0; answers the ROW. */
    private static int putBox(MarkRules x, int place, int howMany) {
        int row = x.row(10);
        for (int n = 0; n < howMany; n++) {
            x.push(row, x.instance(0));
        }
        int box = x.instance(1);
        x.give(box, 0, row);
        c.due("put of the CONTAINER", x.put(place, box), 1);
        return row;
    }

    /** "BAD" of put(). */
    private static void putOfNothing() {
        MarkRules x = withPlaces();
        x.mark(31, 2, false);
        int a = x.instance(0);
        int number = x.value(0, 0);
        int row = x.row(10);
        for (int far : FAR) {
            c.due("PLACE " + far, x.put(far, a), BAD);
            c.due("INSTANCE " + far, x.put(0, far), BAD);
        }
        c.due("the next PLACE", x.put(7, a), BAD);
        c.due("the next VALUE", x.put(0, 3), BAD);
        c.due("a NUMBER", x.put(0, number), BAD);
        c.due("a ROW", x.put(0, row), BAD);
        c.due("nothing was put", x.count(3), 0);
        c.due("nothing is DONE", x.told(a, 3), 0);
        c.due("put", x.put(6, a), 1);
        c.due("BAD ahead of STATE", x.put(7, a), BAD);
    }

    /** "TYPES 0, 1; FIELDS 2; METHODS 3, 4; PARAMETERS 5; USES 2, 3, 5"; RULE 1. */
    private static void whereAMarkMayStand() {
        String[] fitting = {"01", "2", "34", "5", "235"};
        for (int bit = 0; bit < 5; bit++) {
            for (int place = 0; place < 6; place++) {
                boolean may = fitting[bit].indexOf('0' + place) >= 0;
                MarkRules x = withPlaces();
                x.mark(1 << bit, 0, false);
                x.mark(31 - (1 << bit), 0, false);
                x.mark(0, 0, false);
                c.due("TARGET " + (1 << bit) + " at " + place, x.put(place, x.instance(0)), may ? 1 : -11);
                c.due("no TARGETS at " + place, x.put(place, x.instance(2)), -11);
                boolean others = false;
                for (int other = 0; other < 5; other++) {
                    others = others || other != bit && fitting[other].indexOf('0' + place) >= 0;
                }
                c.due("all but " + (1 << bit) + " at " + place, x.put(place, x.instance(1)), others ? 1 : -11);
            }
        }
    }

    /** RULE 2: "it is not WHOLE". */
    private static void notWhole() {
        MarkRules x = withPlaces();
        x.mark(31, 0, false);
        x.mark(31, 0, false);
        x.element(0, 0, 0, false);
        x.element(1, 0, 10, false);
        x.element(1, 1, 10, true);
        int number = x.value(0, 0);
        int b = x.instance(1);
        int hollow = x.instance(0);
        int whole = x.instance(0);
        x.give(whole, 0, number);
        c.due("without its ELEMENTS", x.put(0, b), -12);
        x.give(b, 1, x.row(10));
        c.due("without one of its ELEMENTS", x.put(0, b), -12);
        x.give(b, 0, whole);
        c.due("with both, the ROW empty", x.put(0, b), 1);
        int d = x.instance(1);
        int other = x.instance(0);
        x.give(other, 0, number);
        x.give(d, 0, other);
        x.give(d, 1, hollow);
        c.due("one in its ROW is not", x.put(1, d), -12);
    }

    /** RULE 3: "its MARK stands there already, and has no CONTAINER". */
    private static void standsAlready() {
        MarkRules x = withPair(2, false, 2, false);
        x.mark(31, 2, false);
        c.due("no CONTAINER", x.put(0, x.instance(2)), 1);
        int second = x.instance(2);
        c.due("the second", x.put(0, second), -13);
        c.due("it is not DONE", x.told(second, 3), 0);
        c.due("at the PARENT's child", x.put(6, second), 1);
        c.due("with a CONTAINER", x.put(0, x.instance(0)), 1);
        c.due("with a CONTAINER, the second", x.put(0, x.instance(0)), 2);
        c.due("the CONTAINER", x.put(1, x.instance(1)), 1);
        c.due("the CONTAINER, the second", x.put(1, x.instance(1)), -13);
    }

    /** RULE 4: "its MARK's CONTAINER stands there, by an INSTANCE of its own". */
    private static void containerStands() {
        MarkRules x = withPair(2, true, 2, true);
        putBox(x, 0, 0);
        c.due("beside an empty CONTAINER", x.put(0, x.instance(0)), -14);
        c.due("elsewhere", x.put(1, x.instance(0)), 1);
        c.due("below it: it does not stand there", x.put(6, x.instance(0)), 1);
        c.due("several, without an INSTANCE of its own", x.put(6, x.instance(0)), 2);
        c.due("nor of two that stand for it", x.put(6, x.instance(0)), 3);
        MarkRules y = withPlaces();
        y.mark(31, 2, false);
        y.mark(31, 2, false);
        y.element(1, 0, 10, true);
        y.fallback(1, 0, y.row(10));
        c.due("put before it is a CONTAINER", y.put(0, y.instance(1)), 1);
        c.due("told", y.container(0, 1), 1);
        c.due("it stands there", y.put(0, y.instance(0)), -14);
    }

    /** RULE 5: "it is of a CONTAINER, and of a MARK of which it is the CONTAINER one stands there". */
    private static void containerBesideItsMark() {
        MarkRules x = withPair(0, false, 2, false);
        x.mark(31, 2, false);
        putNew(x, 0, 0);
        int box = x.instance(1);
        c.due("beside one", x.put(0, box), -15);
        putNew(x, 0, 0);
        c.due("beside two", x.put(0, box), -15);
        c.due("it is not DONE", x.told(box, 3), 0);
        putNew(x, 1, 2);
        c.due("beside another MARK", x.put(1, box), 1);
    }

    /** "At most 4 INSTANCES of a MARK at a PLACE"; "FULL: 4 (behind the RULES)". */
    private static void fourOfAMark() {
        MarkRules x = withPair(2, false, 2, false);
        for (int n = 1; n <= 4; n++) {
            c.due("the " + n, x.put(0, x.instance(0)), n);
        }
        int fifth = x.instance(0);
        c.due("the 5th", x.put(0, fifth), FULL);
        c.due("the 5th again", x.put(0, fifth), FULL);
        c.due("it is not DONE", x.told(fifth, 3), 0);
        c.due("four stand", x.stands(0), 4);
        c.due("four were put", x.count(3), 4);
        c.due("RULE 5 ahead of FULL of the other", x.put(0, x.instance(1)), -15);
        c.due("another PLACE has room", x.put(1, fifth), 1);
        MarkRules y = withPlaces();
        y.mark(1, 0, false);
        y.mark(1, 0, false);
        y.element(0, 0, 0, false);
        y.element(1, 0, 10, true);
        y.container(0, 1);
        int number = y.value(0, 0);
        for (int n = 0; n < 4; n++) {
            int one = y.instance(0);
            y.give(one, 0, number);
            y.put(0, one);
        }
        int hollow = y.instance(0);
        c.due("RULE 2 ahead of FULL", y.put(0, hollow), -12);
        c.due("RULE 1 ahead of RULE 2", y.put(2, hollow), -11);
        y.give(hollow, 0, number);
        c.due("FULL behind the RULES", y.put(0, hollow), FULL);
    }

    /** "the first of these RULES that is broken is answered". */
    private static void firstRuleFirst() {
        MarkRules x = withPlaces();
        x.mark(1 + 2, 0, false);
        x.mark(1, 0, false);
        x.mark(1, 0, false);
        x.element(0, 1, 0, false);
        x.element(1, 0, 10, true);
        x.element(2, 0, 11, true);
        int number = x.value(0, 0);
        x.fallback(0, 1, number);
        c.due("1 holds 0", x.container(0, 1), 1);
        c.due("2 holds 1", x.container(1, 2), 1);
        putNew(x, 2, 0);
        putNew(x, 0, 0);
        int box = x.instance(1);
        c.due("1 ahead of 2 and 5", x.put(2, box), -11);
        c.due("2 ahead of 5", x.put(0, box), -12);
        x.give(box, 0, x.row(10));
        c.due("1 ahead of 5", x.put(2, box), -11);
        c.due("5 alone", x.put(0, box), -15);
        int top = x.instance(2);
        c.due("2 of what holds 1", x.put(0, top), -12);
        x.give(top, 0, x.row(11));
        c.due("what holds 1 stands beside 0", x.put(0, top), 1);
        c.due("4 ahead of 5", x.put(0, box), -14);
        c.due("2 ahead of 4", x.put(0, x.instance(1)), -12);
        MarkRules y = withPlaces();
        y.mark(1, 0, false);
        y.element(0, 0, 0, false);
        int zero = y.value(0, 0);
        int first = y.instance(0);
        y.give(first, 0, zero);
        y.put(0, first);
        int hollow = y.instance(0);
        c.due("2 ahead of 3", y.put(0, hollow), -12);
        y.give(hollow, 0, zero);
        c.due("3 alone", y.put(0, hollow), -13);
    }

    /** "STATE: it is DONE", whatever RULE is broken. */
    private static void stateAheadOfTheRules() {
        MarkRules x = withPlaces();
        x.mark(1, 0, false);
        x.element(0, 0, 0, false);
        int hollow = x.instance(0);
        x.push(x.row(10), hollow);
        c.due("ahead of 1", x.put(2, hollow), STATE);
        c.due("ahead of 2", x.put(0, hollow), STATE);
        int a = x.instance(0);
        x.give(a, 0, x.value(0, 0));
        x.put(0, a);
        c.due("ahead of 3", x.put(0, a), STATE);
        c.due("nothing stands more", x.stands(0), 1);
    }

    /** "BAD" of ask(); "NONE: none". */
    private static void askOfNothing() {
        MarkRules x = withPair(2, true, 2, true);
        for (int far : FAR) {
            c.due("PLACE " + far, x.ask(far, 0, false), BAD);
            c.due("PLACE " + far + ", found", x.ask(far, 0, true), BAD);
            c.due("MARK " + far, x.ask(0, far, false), BAD);
            c.due("MARK " + far + ", found", x.ask(0, far, true), BAD);
        }
        c.due("the next PLACE", x.ask(7, 0, true), BAD);
        c.due("the next MARK", x.ask(0, 2, true), BAD);
        for (int place = 0; place <= 6; place++) {
            c.due("none at " + place, x.ask(place, 0, false), NONE);
            c.due("none found at " + place, x.ask(place, 0, true), NONE);
            c.due("no CONTAINER at " + place, x.ask(place, 1, true), NONE);
        }
        x.mark(0, 0, false);
        c.due("BAD ahead of KEEP", x.ask(7, 2, false), BAD);
    }

    /** "if one stands there, that; if several do: none". */
    private static void oneOrSeveral() {
        MarkRules x = withPair(2, false, 2, false);
        int first = putNew(x, 3, 0);
        c.due("one", x.ask(3, 0, false), first);
        c.due("one, found", x.ask(3, 0, true), first);
        c.due("its CONTAINER has none", x.ask(3, 1, false), NONE);
        putNew(x, 3, 0);
        c.due("two", x.ask(3, 0, false), NONE);
        c.due("two, found", x.ask(3, 0, true), NONE);
    }

    /** "of several by their CONTAINER -100 less how many there are in its ROW (it is no VALUE)". */
    private static void severalInTheirContainer() {
        MarkRules x = withPair(2, false, 2, false);
        int before = x.count(2);
        int[] due = {NONE, -102, -103, -104};
        for (int n = 1; n <= 4; n++) {
            putNew(x, 5, 0);
            c.due(n + " by their CONTAINER", x.ask(5, 1, false), due[n - 1]);
        }
        c.due("a 5th is refused", x.put(5, x.instance(0)), FULL);
        c.due("so there are 4", x.ask(5, 1, true), -104);
        c.due("no VALUE came to be by asking", x.count(2), before + 5);
        putBox(x, 4, 4);
        c.due("a CONTAINER of 4 that was put is a VALUE", x.told(x.ask(4, 1, false), 1), 11);
        putBox(x, 2, 0);
        c.due("a CONTAINER of none that was put is one, too", x.told(x.ask(2, 1, false), 1), 11);
    }

    /** "NONE: none, or KEEP is not RUN"; "KEEP of the MARK that stands counts for OWN of its CONTAINER, too". */
    private static void keepRun() {
        for (int keep0 = 0; keep0 <= 2; keep0++) {
            for (int keep1 = keep0; keep1 <= 2; keep1++) {
                String keeps = "KEEP " + keep0 + " in " + keep1;
                MarkRules x = withPair(keep0, true, keep1, true);
                int a = putNew(x, 0, 0);
                c.due(keeps + ": one", x.ask(0, 0, false), keep0 == 2 ? a : NONE);
                c.due(keeps + ": one found", x.ask(6, 0, true), keep0 == 2 ? a : NONE);
                c.due(keeps + ": all", x.all(6, 0), keep0 == 2 ? 1 : 0);
                c.due(keeps + ": of", x.of(6, 0, 0), keep0 == 2 ? a : NONE);
                putNew(x, 0, 0);
                c.due(keeps + ": several", x.ask(0, 1, false), keep0 == 2 ? -102 : NONE);
                c.due(keeps + ": several found", x.ask(6, 1, true), keep0 == 2 ? -102 : NONE);
                int row = putBox(x, 1, 2);
                int box = x.count(2) - 1;
                c.due(keeps + ": a CONTAINER that was put", x.ask(1, 1, false), keep1 == 2 ? box : NONE);
                c.due(keeps + ": all of its ROW", x.all(1, 0), keep0 == 2 ? 2 : 0);
                c.due(keeps + ": the last of its ROW", x.of(1, 0, 1), keep0 == 2 ? x.part(row, 1) : NONE);
                c.due(keeps + ": all of the CONTAINER", x.all(1, 1), keep1 == 2 ? 1 : 0);
                c.due(keeps + ": stands", x.stands(0) + x.stands(1), 3);
            }
        }
    }

    /** "FOUND: OWN, if there is one; else, if the MARK is INHERITED and the PLACE a CLASS with a PARENT: FOUND at the PARENT." */
    private static void foundAtTheParent() {
        MarkRules x = withPlaces();
        x.mark(31, 2, true);
        x.mark(31, 2, false);
        int top = putNew(x, 0, 0);
        putNew(x, 0, 1);
        c.due("INHERITED", x.ask(6, 0, true), top);
        c.due("INHERITED, but OWN is asked", x.ask(6, 0, false), NONE);
        c.due("not INHERITED", x.ask(6, 1, true), NONE);
        c.due("not INHERITED, all", x.all(6, 1), 0);
        int below = putNew(x, 6, 0);
        c.due("OWN, if there is one", x.ask(6, 0, true), below);
        c.due("not of the child", x.ask(0, 0, true), top);
    }

    /** "the PLACE a CLASS with a PARENT": no FACE, no MEMBER of a CLASS, no PARAMETER. */
    private static void noParentButOfAClass() {
        MarkRules x = withPair(2, true, 2, true);
        putNew(x, 0, 0);
        putNew(x, 3, 0);
        for (int place = 1; place <= 5; place++) {
            if (place != 3) {
                c.due("found at " + place, x.ask(place, 0, true), NONE);
                c.due("all at " + place, x.all(place, 0), 0);
                c.due("of at " + place, x.of(place, 0, 0), NONE);
            }
        }
        MarkRules y = withPair(2, true, 2, true);
        putNew(y, 6, 0);
        c.due("a CLASS without PARENT", y.ask(0, 0, true), NONE);
        c.due("a CLASS without PARENT, all", y.all(0, 0), 0);
    }

    /** "FOUND at the PARENT": through as many as there may be. */
    private static void foundThroughForty() {
        MarkRules x = new MarkRules();
        for (int p = 0; p < 40; p++) {
            x.place(0, p - 1);
        }
        x.mark(1, 2, true);
        x.mark(1, 2, true);
        x.element(1, 0, 10, true);
        x.container(0, 1);
        c.due("none", x.ask(39, 0, true), NONE);
        c.due("none of all", x.all(39, 0), 0);
        putBox(x, 0, 4);
        c.due("the CONTAINER", x.told(x.ask(39, 1, true), 1), 11);
        c.due("all", x.all(39, 0), 4);
        c.due("the last", x.of(39, 0, 3), x.part(x.part(x.ask(0, 1, false), 0), 3));
        int near = putNew(x, 38, 0);
        c.due("the nearest", x.of(39, 0, 0), near);
        c.due("it alone", x.all(39, 0), 1);
    }

    /** "BAD" of all(). */
    private static void allOfNothing() {
        MarkRules x = withPair(2, true, 2, true);
        for (int far : FAR) {
            c.due("PLACE " + far, x.all(far, 0), BAD);
            c.due("MARK " + far, x.all(0, far), BAD);
        }
        c.due("the next PLACE", x.all(7, 0), BAD);
        c.due("the next MARK", x.all(0, 2), BAD);
        c.due("none", x.all(6, 1), 0);
        x.mark(0, 0, false);
        c.due("BAD ahead of KEEP", x.all(7, 2), BAD);
    }

    /** "those of it that stand there": one to four, and none of the PARENT's. */
    private static void allHereFirst() {
        MarkRules x = withPair(2, true, 2, true);
        putBox(x, 0, 3);
        c.due("the PARENT's", x.all(6, 0), 3);
        for (int n = 1; n <= 4; n++) {
            int one = putNew(x, 6, 0);
            c.due("here", x.all(6, 0), n);
            c.due("the last", x.of(6, 0, n - 1), one);
            c.due("none behind it", x.of(6, 0, n), NONE);
        }
    }

    /** "if none does, the VALUES of the ROW of its CONTAINER's OWN there (ELEMENT 0)". */
    private static void allOfTheRow() {
        int[] placeOf = {1, 2, 3, 4, 5};
        MarkRules x = withPair(2, false, 2, false);
        for (int n = 0; n <= 4; n++) {
            int row = putBox(x, placeOf[n], n);
            c.due("a ROW of " + n, x.all(placeOf[n], 0), n);
            for (int i = 0; i <= 4; i++) {
                c.due("of " + i, x.of(placeOf[n], 0, i), i < n ? x.part(row, i) : NONE);
            }
        }
        c.due("what is in a ROW does not stand", x.stands(5), 1);
        c.due("nor is it OWN", x.ask(5, 0, false), NONE);
    }

    /** "if there is none of these either": an empty ROW has none. */
    private static void allOfAnEmptyRow() {
        MarkRules x = withPair(2, true, 2, true);
        int top = putNew(x, 0, 0);
        putBox(x, 6, 0);
        c.due("the PARENT's", x.all(6, 0), 1);
        c.due("which is", x.of(6, 0, 0), top);
        c.due("the CONTAINER is found here", x.told(x.ask(6, 1, true), 1), 11);
        MarkRules y = withPair(2, false, 2, true);
        putNew(y, 0, 0);
        putBox(y, 6, 0);
        c.due("not INHERITED", y.all(6, 0), 0);
        MarkRules z = withPair(2, true, 2, true);
        putBox(z, 0, 2);
        int byDefault = putNew(z, 6, 1);
        c.due("an empty ROW by DEFAULT", z.all(6, 0), 2);
        c.due("it stands", z.ask(6, 1, false), byDefault);
    }

    /** "its CONTAINER's OWN": of several CONTAINERS there is none. */
    private static void allOfSeveralContainers() {
        MarkRules x = withPlaces();
        for (int m = 0; m < 3; m++) {
            x.mark(31, 2, true);
        }
        x.element(1, 0, 10, true);
        x.element(2, 0, 11, true);
        x.container(0, 1);
        x.container(1, 2);
        putBox(x, 0, 1);
        putBox(x, 6, 2);
        c.due("one", x.all(6, 0), 2);
        int box = x.instance(1);
        x.give(box, 0, x.instance(0));
        c.due("a second", x.put(6, box), 2);
        c.due("several are no OWN, so the PARENT's", x.all(6, 0), 1);
        c.due("they are ALL OF their own MARK", x.all(6, 1), 2);
        c.due("by their CONTAINER", x.ask(6, 2, false), -102);
        c.due("OWN of them", x.ask(6, 1, false), NONE);
        c.due("FOUND of them is the PARENT's", x.told(x.ask(6, 1, true), 1), 11);
    }

    /** "those of it that stand there": a CONTAINER that several stand for does not stand. */
    private static void allOfAContainerThatNobodyPut() {
        MarkRules x = withPair(2, true, 2, true);
        x.mark(31, 2, true);
        x.element(2, 0, 11, true);
        c.due("container of the CONTAINER", x.container(1, 2), 1);
        for (int n = 0; n < 4; n++) {
            putNew(x, 0, 0);
        }
        c.due("it is asked for", x.ask(0, 1, false), -104);
        c.due("all of it", x.all(0, 1), 0);
        c.due("of it", x.of(0, 1, 0), NONE);
        c.due("below", x.all(6, 1), 0);
        c.due("its own CONTAINER has one at most, so none", x.ask(0, 2, false), NONE);
        c.due("all of that", x.all(0, 2), 0);
    }

    /** "BAD" of of(). */
    private static void ofNothing() {
        MarkRules x = withPair(2, true, 2, true);
        int a = putNew(x, 0, 0);
        for (int far : FAR) {
            c.due("PLACE " + far, x.of(far, 0, 0), BAD);
            c.due("MARK " + far, x.of(0, far, 0), BAD);
            c.due("i " + far, x.of(0, 0, far), NONE);
            c.due("i " + far + ", inherited", x.of(6, 0, far), NONE);
            c.due("i " + far + ", of none", x.of(1, 0, far), NONE);
        }
        c.due("the next PLACE", x.of(7, 0, 0), BAD);
        c.due("the next MARK", x.of(0, 2, 0), BAD);
        c.due("BAD ahead of NONE", x.of(7, 0, -1), BAD);
        c.due("the first", x.of(0, 0, 0), a);
        c.due("the second", x.of(0, 0, 1), NONE);
    }

    /** "The i-th of these; NONE." */
    private static void ofTheLast() {
        MarkRules x = withPair(2, false, 2, false);
        int[] made = {x.instance(0), x.instance(0), x.instance(0), x.instance(0)};
        int[] order = {2, 0, 3, 1};
        for (int n : order) {
            x.put(0, made[n]);
            x.put(1, x.instance(0));
        }
        for (int i = 0; i < 4; i++) {
            c.due("as they were put: " + i, x.of(0, 0, i), made[order[i]]);
        }
        c.due("behind the last", x.of(0, 0, 4), NONE);
        int row = putBox(x, 2, 4);
        for (int far : FAR) {
            c.due("of a ROW: " + far, x.of(2, 0, far), NONE);
        }
        c.due("the last of a ROW", x.of(2, 0, 3), x.part(row, 3));
        c.due("behind the last of a ROW", x.of(2, 0, 4), NONE);
    }

    /** "BAD" of stands(). */
    private static void standsOfNothing() {
        MarkRules x = withPlaces();
        for (int far : FAR) {
            c.due("PLACE " + far, x.stands(far), BAD);
        }
        c.due("the next PLACE", x.stands(7), BAD);
        for (int place = 0; place <= 6; place++) {
            c.due("none at " + place, x.stands(place), 0);
        }
    }

    /** "INSTANCES that stand at a PLACE, of any KEEP." */
    private static void standsOfAnyKeep() {
        MarkRules x = withPlaces();
        for (int keep = 0; keep <= 2; keep++) {
            x.mark(31, keep, true);
            putNew(x, 0, keep);
            c.due("KEEP " + keep, x.stands(0), keep + 1);
        }
        c.due("a refused one does not stand", x.put(0, x.instance(0)), -13);
        c.due("as many", x.stands(0), 3);
        c.due("none is inherited", x.stands(6), 0);
        c.due("nor of a MEMBER", x.stands(2), 0);
    }

    /** "At most 4 INSTANCES of a MARK at a PLACE": of a MARK, so there may be more in all. */
    private static void standsFull() {
        MarkRules x = withPlaces();
        for (int m = 0; m < 12; m += 2) {
            x.mark(31, 2, false);
            x.mark(31, 2, false);
            x.element(m + 1, 0, 10 + m, true);
            c.due("container", x.container(m, m + 1), 1);
        }
        for (int m = 0; m < 12; m += 2) {
            for (int n = 1; n <= 4; n++) {
                c.due("MARK " + m, x.put(0, x.instance(m)), n);
            }
            c.due("MARK " + m + ", the 5th", x.put(0, x.instance(m)), FULL);
        }
        c.due("all stand", x.stands(0), 24);
        c.due("all were put", x.count(3), 24);
    }

    /** "BAD" of count(). */
    private static void countOfNothing() {
        MarkRules x = new MarkRules();
        for (int what = -3; what <= 60; what++) {
            boolean zero = what >= 0 && what <= 3 || what >= 11 && what <= 13;
            c.due("what " + what, x.count(what), zero ? 0 : BAD);
        }
        int[] wrong = {MIN, MIN + 19, MIN + 20, MIN + 39, MIN + 40, MIN + 51, MAX - 20, MAX};
        for (int what : wrong) {
            c.due("what " + what, x.count(what), BAD);
        }
    }

    /** "20 + m: ELEMENTS of MARK m, 40 + m: its CONTAINER (NONE)": up to the 12th MARK. */
    private static void countOfTwelve() {
        MarkRules x = new MarkRules();
        for (int m = 0; m < 12; m++) {
            c.due("not yet: ELEMENTS of " + m, x.count(20 + m), BAD);
            c.due("not yet: CONTAINER of " + m, x.count(40 + m), BAD);
            x.mark(1, 0, false);
            c.due("ELEMENTS of " + m, x.count(20 + m), 0);
            c.due("CONTAINER of " + m, x.count(40 + m), NONE);
        }
        c.due("ELEMENTS of a 13th", x.count(32), BAD);
        c.due("between", x.count(39), BAD);
        c.due("CONTAINER of a 13th", x.count(52), BAD);
        for (int name = 0; name < 5; name++) {
            x.element(11, name, 10, true);
        }
        c.due("five ELEMENTS", x.count(31), 5);
        for (int name = 1; name < 5; name++) {
            x.fallback(11, name, x.row(10));
        }
        c.due("container", x.container(0, 11), 1);
        c.due("the 12th as CONTAINER", x.count(40), 11);
        c.due("it has none", x.count(51), NONE);
    }

    /** "MARKS (what = 0), PLACES (1), VALUES (2), INSTANCES that were put (3)": none that was refused. */
    private static void countOfTheRefused() {
        MarkRules x = new MarkRules();
        for (int m = 0; m < 13; m++) {
            x.mark(1, 0, false);
        }
        for (int p = 0; p < 41; p++) {
            x.place(0, NONE);
        }
        int a = x.instance(0);
        for (int v = 1; v < 101; v++) {
            x.value(0, 0);
        }
        x.put(0, a);
        x.put(1, a);
        x.put(40, a);
        c.due("MARKS", x.count(0), 12);
        c.due("PLACES", x.count(1), 40);
        c.due("VALUES", x.count(2), 100);
        c.due("put", x.count(3), 1);
    }
}
