/** The boundary cases of part 1 of the document and of promises 1 to 5: each method has its sentence above it. */
public final class MarkEdgesTest {
    private static final int NONE = MarkRules.NONE, BAD = MarkRules.BAD, FULL = MarkRules.FULL;
    private static final int STATE = MarkRules.STATE, FAILED = MarkRules.FAILED, RING = MarkRules.RING;
    private static final int MIN = Integer.MIN_VALUE, MAX = Integer.MAX_VALUE;
    private static final int[] FAR = {MIN, MIN + 1, -100, -2, -1, 12, 13, 100, MAX - 1, MAX};
    private static final Check c = new Check("MarkEdgesTest");

    public static void main(String[] args) {
        c.promise(1);
        everythingIsBadOfNothing();
        c.promise(2);
        twelveMarks();
        targetsAndKeep();
        c.promise(3);
        fiveElements();
        names();
        kinds();
        elementOfNoMark();
        ringOfOneTwoThree();
        ringByAnyElement();
        depthAtTheTop();
        depthAtTheFoot();
        depthInTheMiddle();
        refusedForAnInstance();
        refusedForAContainer();
        c.promise(4);
        fallbackOfNothing();
        fallbackInPlaceOfAnother();
        fallbackNotWhole();
        fallbackWithTheLastValue();
        fallbackRefusedLeavesTheDefault();
        c.promise(5);
        containerOfNothing();
        containerKeep();
        containerTargets();
        containerInherited();
        containerElementZero();
        containerDefaultsOfOthers();
        oneContainerAtMost();
        containerAfterPut();
        c.end();
    }

    private static MarkRules withMarks(int howMany) {
        MarkRules x = new MarkRules();
        for (int m = 0; m < howMany; m++) {
            x.mark(31, 2, false);
        }
        return x;
    }

    /** "No MARKS, PLACES, VALUES." */
    private static void everythingIsBadOfNothing() {
        MarkRules x = new MarkRules();
        c.due("element", x.element(0, 0, 0, false), BAD);
        c.due("fallback", x.fallback(0, 0, NONE), BAD);
        c.due("container", x.container(0, 0), BAD);
        c.due("a PARENT", x.place(0, 0), BAD);
        c.due("a MEMBER", x.place(2, 0), BAD);
        c.due("a PARAMETER", x.place(5, 0), BAD);
        c.due("a TYPE", x.value(3, 0), BAD);
        c.due("a ROW of a MARK", x.row(10), BAD);
        c.due("push", x.push(0, NONE), BAD);
        c.due("instance", x.instance(0), BAD);
        c.due("give", x.give(0, 0, NONE), BAD);
        c.due("put", x.put(0, 0), BAD);
        c.due("told", x.told(0, 0), BAD);
        c.due("part", x.part(0, 0), BAD);
        c.due("equal", x.equal(0, 0), BAD);
        c.due("written", x.written(0), BAD);
        c.due("ask", x.ask(0, 0, true), BAD);
        c.due("all", x.all(0, 0), BAD);
        c.due("of", x.of(0, 0, 0), BAD);
        c.due("stands", x.stands(0), BAD);
        c.due("nothing WRITTEN", x.letter(0), NONE);
        c.due("no FAILURE", x.cause(), 0);
        c.due("none came to be", x.count(0) + x.count(1) + x.count(2) + x.count(3), 0);
        c.due("none failed", x.count(11) + x.count(12) + x.count(13), 0);
    }

    /** "MARKS, 12 at most, numbered from 0." */
    private static void twelveMarks() {
        MarkRules x = new MarkRules();
        c.due("the first", x.mark(1, 0, false), 0);
        for (int m = 1; m < 11; m++) {
            x.mark(1, 0, false);
        }
        c.due("the 12th", x.mark(1, 0, false), 11);
        c.due("the 13th", x.mark(1, 0, false), FULL);
        c.due("again", x.mark(0, 2, true), FULL);
        c.due("there are", x.count(0), 12);
        c.due("the last is one", x.element(11, 0, 0, false), 1);
        c.due("the 13th is none", x.element(12, 0, 0, false), BAD);
    }

    /** "TARGETS (0 .. 31) and KEEP" (0, 1, 2). */
    private static void targetsAndKeep() {
        int[] wrongTargets = {MIN, -32, -1, 32, 33, 63, MAX};
        int[] wrongKeeps = {MIN, -1, 3, 4, MAX};
        MarkRules x = new MarkRules();
        for (int targets : wrongTargets) {
            c.due("TARGETS " + targets, x.mark(targets, 0, true), BAD);
        }
        for (int keep : wrongKeeps) {
            c.due("KEEP " + keep, x.mark(31, keep, true), BAD);
        }
        c.due("TARGETS 0", x.mark(0, 0, false), 0);
        c.due("TARGETS 31, KEEP 2", x.mark(31, 2, true), 1);
        c.due("KEEP 1", x.mark(16, 1, false), 2);
        MarkRules full = withMarks(12);
        c.due("BAD ahead of FULL, by TARGETS", full.mark(-1, 0, false), BAD);
        c.due("BAD ahead of FULL, by KEEP", full.mark(0, 3, false), BAD);
    }

    /** "ELEMENTS, 5 at most, in order"; the answer is "how many it has". */
    private static void fiveElements() {
        MarkRules x = withMarks(2);
        for (int n = 1; n <= 5; n++) {
            c.due("ELEMENT " + n, x.element(0, 10 - n, n % 4, n % 2 == 0), n);
        }
        c.due("the 6th", x.element(0, 0, 0, false), FULL);
        c.due("of another MARK", x.element(1, 0, 0, false), 1);
        c.due("there are", x.count(20), 5);
        c.due("the refused one is no NAME of it", x.fallback(0, 0, x.value(0, 0)), BAD);
        c.due("BAD ahead of FULL: a NAME it has", x.element(0, 5, 0, false), BAD);
        c.due("BAD ahead of FULL: no KIND", x.element(0, 0, 12, false), BAD);
        c.due("RING ahead of FULL", x.element(0, 0, 10, false), RING);
        x.instance(0);
        c.due("STATE ahead of FULL", x.element(0, 0, 0, false), STATE);
    }

    /** "a NAME (0 .. 9, no two of a MARK alike)". */
    private static void names() {
        MarkRules x = withMarks(2);
        int[] wrong = {MIN, -2, -1, 10, 11, MAX};
        for (int name : wrong) {
            c.due("NAME " + name, x.element(0, name, 0, false), BAD);
        }
        c.due("NAME 0", x.element(0, 0, 0, false), 1);
        c.due("NAME 9", x.element(0, 9, 0, false), 2);
        c.due("NAME 0 again", x.element(0, 0, 0, false), BAD);
        c.due("NAME 9 again, another KIND", x.element(0, 9, 1, true), BAD);
        c.due("NAME 9 of another MARK", x.element(1, 9, 0, false), 1);
        c.due("a NAME it has, BAD ahead of RING", x.element(0, 0, 10, false), BAD);
    }

    /** "KINDS: 0 NUMBER, 1 WORD, 2 CHOICE, 3 TYPE, 10 + m: MARK m." */
    private static void kinds() {
        MarkRules x = withMarks(3);
        int[] wrong = {MIN, MIN + 9, MIN + 10, MIN + 11, -1, 4, 5, 9, 13, 14, 21, 22, MAX};
        for (int kind : wrong) {
            c.due("KIND " + kind, x.element(0, 0, kind, true), BAD);
        }
        c.due("KIND 0", x.element(0, 0, 0, true), 1);
        c.due("KIND 3", x.element(0, 1, 3, true), 2);
        c.due("KIND 11", x.element(0, 2, 11, true), 3);
        c.due("KIND 12, the last MARK", x.element(0, 3, 12, true), 4);
        MarkRules full = withMarks(12);
        c.due("KIND 21, of twelve", full.element(0, 0, 21, false), 1);
        c.due("KIND 22, of twelve", full.element(0, 1, 22, false), BAD);
        c.due("KIND 10, of twelve", full.element(10, 0, 10, false), 1);
    }

    /** "BAD: a number is not as told": no such MARK. */
    private static void elementOfNoMark() {
        MarkRules x = withMarks(12);
        for (int mark : FAR) {
            c.due("MARK " + mark, x.element(mark, 0, 0, false), BAD);
        }
    }

    /** "none leads to itself". */
    private static void ringOfOneTwoThree() {
        MarkRules x = withMarks(3);
        c.due("0 to 0", x.element(0, 0, 10, false), RING);
        c.due("0 to 0 by a ROW", x.element(0, 0, 10, true), RING);
        c.due("0 to 1", x.element(0, 0, 11, false), 1);
        c.due("1 to 0", x.element(1, 0, 10, false), RING);
        c.due("1 to 2", x.element(1, 0, 12, true), 1);
        c.due("2 to 0", x.element(2, 0, 10, false), RING);
        c.due("2 to 1", x.element(2, 0, 11, false), RING);
        c.due("2 to 2", x.element(2, 0, 12, false), RING);
        c.due("0 to 2, which is no ring", x.element(0, 1, 12, false), 2);
        c.due("the refused ones are none", x.count(22), 0);
    }

    /** "A MARK LEADS to those that its ELEMENTS have as KINDS": to each, not to the latest alone. */
    private static void ringByAnyElement() {
        MarkRules x = withMarks(4);
        x.element(0, 0, 11, false);
        x.element(0, 1, 0, false);
        c.due("1 to 0, though a NUMBER came later", x.element(1, 0, 10, false), RING);
        x.element(0, 2, 12, false);
        c.due("1 to 0, though 2 came later", x.element(1, 0, 10, false), RING);
        c.due("2 to 0", x.element(2, 0, 10, false), RING);
        x.element(3, 0, 10, false);
        c.due("1 to 2: 3, 0, 1, 2 would be one too many", x.element(1, 0, 12, false), RING);
        c.due("a NUMBER of 0 is still fine", x.element(0, 3, 0, false), 4);
        MarkRules y = withMarks(4);
        y.element(2, 0, 13, false);
        y.element(1, 0, 12, false);
        c.due("0 to 3, of DEPTH 1", y.element(0, 0, 13, false), 1);
        c.due("0 to 1, of DEPTH 3", y.element(0, 1, 11, false), RING);
        c.due("3 to 0: it leads to 3", y.element(3, 0, 10, false), RING);
    }

    /** "2 at most": one MARK more above those of DEPTH 0, 1, 2. */
    private static void depthAtTheTop() {
        MarkRules x = withMarks(5);
        c.due("DEPTH 1", x.element(1, 0, 10, false), 1);
        c.due("DEPTH 2", x.element(2, 0, 11, false), 1);
        c.due("DEPTH 3", x.element(3, 0, 12, false), RING);
        c.due("DEPTH 3 by a ROW", x.element(3, 0, 12, true), RING);
        c.due("DEPTH 2 beside it", x.element(3, 0, 11, true), 1);
        c.due("DEPTH 2 stays with one of DEPTH 0", x.element(3, 1, 10, false), 2);
        c.due("DEPTH 1 beside it", x.element(4, 0, 10, false), 1);
    }

    /** "one would have a DEPTH above 2": not the MARK itself, but one that leads to it. */
    private static void depthAtTheFoot() {
        MarkRules x = withMarks(4);
        x.element(2, 0, 11, false);
        x.element(1, 0, 10, false);
        c.due("the foot leads on", x.element(0, 0, 13, false), RING);
        c.due("the foot has plain ones", x.element(0, 0, 3, false), 1);
        c.due("the middle leads to another foot", x.element(1, 1, 13, false), 2);
        c.due("that foot leads on", x.element(3, 0, 10, false), RING);
    }

    /** "one would have a DEPTH above 2": two MARKS of DEPTH 1, one led to the other. */
    private static void depthInTheMiddle() {
        MarkRules x = withMarks(6);
        x.element(0, 0, 11, false);
        x.element(2, 0, 13, false);
        c.due("1 to 2 makes DEPTH 3 of 0", x.element(1, 0, 12, false), RING);
        c.due("1 to 3 makes DEPTH 2 of 0", x.element(1, 0, 13, false), 1);
        c.due("0 to 2 keeps it at 2", x.element(0, 1, 12, false), 2);
        c.due("3 to 4 makes DEPTH 3 of 0", x.element(3, 0, 14, false), RING);
        c.due("4 to 0 makes DEPTH 3 of 4", x.element(4, 0, 10, false), RING);
        c.due("4 to 1 makes DEPTH 2 of 4", x.element(4, 0, 11, false), 1);
    }

    /** "STATE: there is an INSTANCE of the MARK": from the first one on, wherever that is. */
    private static void refusedForAnInstance() {
        MarkRules x = withMarks(3);
        x.element(1, 0, 10, true);
        x.row(11);
        c.due("a ROW of it is none", x.element(1, 1, 0, false), 2);
        int a = x.instance(0);
        c.due("an INSTANCE", x.element(0, 0, 0, false), STATE);
        c.due("not of what leads to it", x.element(1, 2, 0, false), 3);
        x.fallback(1, 0, a);
        c.due("one that is DONE", x.element(0, 0, 0, false), STATE);
        c.due("and not of the MARK that has it by DEFAULT", x.element(1, 3, 0, false), 4);
        c.due("BAD ahead of STATE: NAME", x.element(0, 10, 0, false), BAD);
        c.due("BAD ahead of STATE: KIND", x.element(0, 0, 4, false), BAD);
        x.instance(1);
        c.due("BAD ahead of STATE: a NAME it has", x.element(1, 0, 0, false), BAD);
        c.due("STATE ahead of RING", x.element(0, 0, 11, false), STATE);
    }

    /** "STATE: .. or it has or is a CONTAINER". */
    private static void refusedForAContainer() {
        MarkRules x = withMarks(3);
        x.element(1, 0, 10, true);
        c.due("before it is told", x.element(0, 0, 0, false), 1);
        c.due("told", x.container(0, 1), 1);
        c.due("it has one", x.element(0, 1, 0, false), STATE);
        c.due("it is one", x.element(1, 1, 0, false), STATE);
        c.due("neither", x.element(2, 1, 0, false), 1);
        c.due("a DEFAULT, it has one", x.fallback(0, 0, x.value(0, 1)), STATE);
        c.due("a DEFAULT, it is one", x.fallback(1, 0, x.row(10)), STATE);
        c.due("a DEFAULT, neither", x.fallback(2, 1, x.value(0, 1)), 1);
    }

    /** "BAD: no such MARK, NAME, VALUE (NONE is not BAD here)"; "NULL: it is NONE". */
    private static void fallbackOfNothing() {
        MarkRules x = withMarks(12);
        x.element(0, 0, 0, false);
        int number = x.value(0, 0);
        for (int far : FAR) {
            c.due("MARK " + far, x.fallback(far, 0, number), BAD);
            c.due("NAME " + far, x.fallback(0, far, number), BAD);
            c.due("VALUE " + far, x.fallback(0, 0, far), far == NONE ? FAILED : BAD);
        }
        c.due("the one NONE is NULL", x.cause(), 1);
        c.due("and the only FAILURE", x.count(11) + x.count(12) + x.count(13), 1);
        c.due("a MARK without ELEMENTS", x.fallback(1, 0, number), BAD);
        c.due("BAD ahead of NULL", x.fallback(1, 0, NONE), BAD);
        x.instance(0);
        c.due("BAD ahead of STATE: VALUE", x.fallback(0, 0, 99), BAD);
        c.due("BAD ahead of STATE: NAME", x.fallback(0, 1, number), BAD);
        c.due("STATE ahead of NULL", x.fallback(0, 0, NONE), STATE);
        c.due("STATE ahead of CAST", x.fallback(0, 0, x.value(1, 0)), STATE);
    }

    /** "(in place of one told before)"; the one before stays DONE. */
    private static void fallbackInPlaceOfAnother() {
        MarkRules x = withMarks(1);
        x.element(0, 0, 0, true);
        int first = x.row(0);
        int second = x.row(0);
        c.due("the first", x.fallback(0, 0, first), 1);
        c.due("the second", x.fallback(0, 0, second), 1);
        c.due("the first is DONE", x.told(first, 3), 1);
        c.due("and cannot come back", x.fallback(0, 0, first), STATE);
        c.due("the second counts", x.part(x.instance(0), 0), second);
    }

    /** "STATE: .. or the VALUE is DONE, or not WHOLE". */
    private static void fallbackNotWhole() {
        MarkRules x = withMarks(3);
        x.element(0, 0, 0, false);
        x.element(1, 0, 10, false);
        x.element(1, 1, 10, true);
        x.element(2, 0, 0, false);
        int a = x.instance(0);
        c.due("an ELEMENT has none", x.fallback(1, 0, a), STATE);
        c.due("an ELEMENT has none, for a ROW", x.fallback(1, 1, a), STATE);
        c.due("STATE ahead of CAST", x.fallback(2, 0, a), STATE);
        x.give(a, 0, x.value(0, 1));
        c.due("CAST once it is WHOLE", x.fallback(2, 0, a), FAILED);
        c.due("it is not DONE by that", x.told(a, 3), 0);
        int row = x.row(10);
        int hollow = x.instance(0);
        x.push(row, hollow);
        c.due("a ROW of one that is not", x.fallback(1, 1, row), STATE);
        c.due("an empty ROW is WHOLE", x.fallback(1, 1, x.row(10)), 1);
        c.due("WHOLE", x.fallback(1, 0, a), 1);
        c.due("DONE", x.fallback(1, 0, a), STATE);
        c.due("DONE, for a ROW", x.fallback(1, 1, a), STATE);
    }

    /** "FULL: as give()": "the new ROW would be the 101st VALUE". */
    private static void fallbackWithTheLastValue() {
        MarkRules x = withMarks(2);
        x.element(0, 0, 0, true);
        x.element(0, 1, 0, true);
        x.element(1, 0, 0, true);
        int number = x.value(0, 0);
        for (int v = 1; v < 99; v++) {
            x.value(0, v);
        }
        c.due("the 100th VALUE", x.fallback(0, 0, number), 1);
        c.due("there are", x.count(2), 100);
        c.due("the 101st", x.fallback(0, 1, number), FULL);
        c.due("in place of another", x.fallback(0, 0, number), FULL);
        c.due("there are as many", x.count(2), 100);
        c.due("BAD ahead of FULL", x.fallback(0, 2, number), BAD);
        MarkRules y = withMarks(1);
        y.element(0, 0, 0, true);
        y.instance(0);
        for (int v = 1; v < 100; v++) {
            y.value(0, v);
        }
        c.due("STATE ahead of FULL", y.fallback(0, 0, 1), STATE);
    }

    /** "nothing changes then": the DEFAULT told before stays. */
    private static void fallbackRefusedLeavesTheDefault() {
        MarkRules x = withMarks(1);
        x.element(0, 0, 0, false);
        x.element(0, 1, 0, false);
        int number = x.value(0, 4);
        x.fallback(0, 0, number);
        c.due("NULL", x.fallback(0, 0, NONE), FAILED);
        c.due("CAST", x.fallback(0, 0, x.value(2, 4)), FAILED);
        c.due("BAD", x.fallback(0, 0, 50), BAD);
        c.due("CAST where none was told", x.fallback(0, 1, x.row(0)), FAILED);
        int a = x.instance(0);
        c.due("STATE", x.fallback(0, 0, x.value(0, 5)), STATE);
        c.due("the DEFAULT", x.part(a, 0), number);
        c.due("no DEFAULT", x.part(a, 1), NONE);
    }

    /** "BAD" of container(): no such MARK. */
    private static void containerOfNothing() {
        MarkRules x = withMarks(12);
        x.element(1, 0, 10, true);
        for (int far : FAR) {
            c.due("m " + far, x.container(far, 1), BAD);
            c.due("c " + far, x.container(0, far), BAD);
            c.due("both " + far, x.container(far, far), BAD);
        }
        c.due("it is fine otherwise", x.container(0, 1), 1);
        c.due("the last MARK, of itself", x.container(11, 11), 0);
    }

    private static int told(int targets0, int keep0, boolean inherited0, int targets1, int keep1, boolean inherited1) {
        MarkRules x = new MarkRules();
        x.mark(targets0, keep0, inherited0);
        x.mark(targets1, keep1, inherited1);
        x.element(1, 0, 10, true);
        int answer = x.container(0, 1);
        c.due("CONTAINER after " + answer, x.count(40), answer == 1 ? 1 : NONE);
        return answer;
    }

    /** "c's KEEP is not less than m's". */
    private static void containerKeep() {
        for (int m = 0; m <= 2; m++) {
            for (int box = 0; box <= 2; box++) {
                c.due("KEEP " + m + " in " + box, told(1, m, false, 1, box, false), box >= m ? 1 : 0);
            }
        }
    }

    /** "TARGETS of c are all TARGETS of m". */
    private static void containerTargets() {
        for (int m = 0; m <= 31; m++) {
            for (int box = 0; box <= 31; box++) {
                boolean all = true;
                for (int bit = 0; bit < 5; bit++) {
                    all = all && ((box >> bit & 1) == 0 || (m >> bit & 1) == 1);
                }
                c.due("TARGETS " + m + " in " + box, told(m, 0, false, box, 0, false), all ? 1 : 0);
            }
        }
    }

    /** "c is INHERITED, if m is". */
    private static void containerInherited() {
        c.due("neither", told(1, 0, false, 1, 0, false), 1);
        c.due("c alone", told(1, 0, false, 1, 0, true), 1);
        c.due("m alone", told(1, 0, true, 1, 0, false), 0);
        c.due("both", told(1, 0, true, 1, 0, true), 1);
    }

    /** "ELEMENT 0 of c (by NAME) is a ROW of MARK m". */
    private static void containerElementZero() {
        MarkRules x = withMarks(12);
        c.due("without ELEMENTS", x.container(0, 1), 0);
        x.element(1, 9, 10, true);
        x.fallback(1, 9, x.row(10));
        c.due("by NAME, not by order", x.container(0, 1), 0);
        x.element(1, 0, 10, true);
        c.due("ELEMENT 0 came second", x.container(0, 1), 1);
        x.element(4, 0, 13, false);
        c.due("no ROW", x.container(3, 4), 0);
        x.element(5, 0, 13, true);
        c.due("a ROW of another", x.container(2, 5), 0);
        c.due("a ROW of that", x.container(3, 5), 1);
        x.element(6, 0, 0, true);
        c.due("a ROW of NUMBERS", x.container(7, 6), 0);
        x.element(11, 0, 18, true);
        c.due("the 12th MARK", x.container(8, 11), 1);
        MarkRules y = withMarks(12);
        y.element(0, 0, 21, true);
        c.due("the first MARK, of the 12th", y.container(11, 0), 1);
        for (int name = 0; name < 5; name++) {
            y.element(1, name, 0, false);
        }
        y.element(2, 0, 13, true);
        c.due("beside one with five ELEMENTS", y.container(3, 2), 1);
    }

    /** "and all others of c have a DEFAULT", in whatever order they came. */
    private static void containerDefaultsOfOthers() {
        for (int missing = 0; missing < 5; missing++) {
            MarkRules x = withMarks(2);
            int number = x.value(0, 0);
            for (int name = 4; name >= 0; name--) {
                x.element(1, name, name == 0 ? 10 : 0, name == 0);
                if (name != 0 && name != missing) {
                    x.fallback(1, name, number);
                }
            }
            c.due("without the DEFAULT of " + missing, x.container(0, 1), missing == 0 ? 1 : 0);
            if (missing != 0) {
                x.fallback(1, missing, number);
                c.due("with it", x.container(0, 1), 1);
            }
        }
    }

    /** "A MARK has one CONTAINER at most"; "STATE: m has one". */
    private static void oneContainerAtMost() {
        MarkRules x = withMarks(4);
        x.element(1, 0, 10, true);
        x.element(2, 0, 10, true);
        x.element(3, 0, 11, true);
        c.due("the first", x.container(0, 1), 1);
        c.due("the same again", x.container(0, 1), STATE);
        c.due("another that would do", x.container(0, 2), STATE);
        c.due("another that would not do", x.container(0, 3), STATE);
        c.due("itself", x.container(0, 0), STATE);
        c.due("BAD ahead of STATE", x.container(0, 4), BAD);
        c.due("the first stays", x.count(40), 1);
        c.due("the CONTAINER has one itself", x.container(1, 3), 1);
        c.due("the refused one is no CONTAINER", x.element(2, 1, 0, false), 2);
    }

    /** "STATE: .. or an INSTANCE of m was put": not one that was only made, or refused. */
    private static void containerAfterPut() {
        MarkRules x = withMarks(4);
        x.place(0, NONE);
        x.element(1, 0, 10, true);
        x.element(3, 0, 12, true);
        x.element(2, 0, 0, false);
        c.due("-12: not put", x.put(0, x.instance(2)), -12);
        c.due("a refused put is none", x.container(2, 3), 1);
        int inRow = x.instance(0);
        x.push(x.row(10), inRow);
        c.due("DONE, but not put", x.put(0, inRow), STATE);
        x.put(0, x.instance(0));
        c.due("put", x.container(0, 1), STATE);
        c.due("STATE ahead of 0", x.container(0, 2), STATE);
        c.due("no CONTAINER", x.count(40), NONE);
    }
}
