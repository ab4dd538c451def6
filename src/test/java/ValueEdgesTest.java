/** The boundary cases of part 3 of the document and of promises 6 to 11 and 13 to 18, each below its sentence. */
public final class ValueEdgesTest {
    private static final int NONE = MarkRules.NONE, BAD = MarkRules.BAD, FULL = MarkRules.FULL;
    private static final int STATE = MarkRules.STATE, FAILED = MarkRules.FAILED;
    private static final int MIN = Integer.MIN_VALUE, MAX = Integer.MAX_VALUE;
    private static final int[] FAR = {MIN, MIN + 1, -100, -2, -1, 100, 101, MAX - 1, MAX};
    private static final int NULL = 1, CAST = 2, STORE = 3;
    private static final Check c = new Check("ValueEdgesTest");

    public static void main(String[] args) {
        c.promise(6);
        fortyPlaces();
        parents();
        c.promise(7);
        hundredValues();
        numbers();
        words();
        choices();
        types();
        c.promise(8);
        kindsOfRows();
        c.promise(9);
        fourInARow();
        pushOfNothing();
        pushIntoItself();
        pushOfAnotherKind();
        c.promise(10);
        instanceOfNothing();
        c.promise(11);
        giveOfNothing();
        giveOnce();
        giveToItself();
        giveTheLastValue();
        giveAnotherKind();
        c.promise(13);
        causeOfTheLatest();
        causeStays();
        c.promise(14);
        toldOfNothing();
        toldOfAnyNumber();
        wholeWithoutElements();
        wholeByBoth();
        c.promise(15);
        partsOfARow();
        partsOfAnInstance();
        c.promise(16);
        equalOfNothing();
        equalEmpty();
        equalByDefault();
        equalToTheLast();
        c.promise(17);
        writtenOfNothing();
        writtenTooLongFirst();
        writtenAtTheEnds();
        c.promise(18);
        letterOfNothing();
        c.end();
    }

    /** Fills up to so many VALUES with NUMBERS. */
    private static void fill(MarkRules x, int upTo) {
        for (int v = x.count(2); v < upTo; v++) {
            x.value(0, v);
        }
    }

    /** "PLACES, 40 at most, numbered from 0". */
    private static void fortyPlaces() {
        MarkRules x = new MarkRules();
        c.due("the first", x.place(1, NONE), 0);
        for (int p = 1; p < 39; p++) {
            x.place(2 + p % 3, 0);
        }
        c.due("the 40th", x.place(0, NONE), 39);
        c.due("the 41st: CLASS", x.place(0, NONE), FULL);
        c.due("the 41st: CLASS with a PARENT", x.place(0, 39), FULL);
        c.due("the 41st: FACE", x.place(1, NONE), FULL);
        c.due("the 41st: FIELD", x.place(2, 39), FULL);
        c.due("the 41st: METHOD", x.place(3, 39), FULL);
        c.due("the 41st: PARAMETER", x.place(5, 1), FULL);
        c.due("BAD ahead of FULL: kind", x.place(6, 0), BAD);
        c.due("BAD ahead of FULL: of", x.place(2, 40), BAD);
        c.due("BAD ahead of FULL: no METHOD", x.place(5, 0), BAD);
        c.due("there are", x.count(1), 40);
        c.due("nothing stands at the last", x.stands(39), 0);
        c.due("nor is there one behind it", x.stands(40), BAD);
    }

    /** "a PARENT, a CLASS told before it, or none"; "BAD: also of". */
    private static void parents() {
        MarkRules x = new MarkRules();
        c.due("itself to be", x.place(0, 0), BAD);
        x.place(0, NONE);
        for (int of : FAR) {
            c.due("CLASS of " + of, x.place(0, of), of == NONE ? 1 : BAD);
            c.due("FIELD of " + of, x.place(2, of), BAD);
            c.due("METHOD of " + of, x.place(3, of), BAD);
            c.due("METHOD that gives nothing of " + of, x.place(4, of), BAD);
            c.due("PARAMETER of " + of, x.place(5, of), BAD);
            c.due("FACE of " + of, x.place(1, of), of == NONE ? 2 : BAD);
        }
        c.due("FACE of a CLASS", x.place(1, 0), BAD);
        c.due("CLASS of a FACE", x.place(0, 2), BAD);
        c.due("CLASS of the next", x.place(0, 3), BAD);
        c.due("CLASS of the latest CLASS", x.place(0, 1), 3);
    }

    /** "VALUES, 100 at most, numbered from 0". */
    private static void hundredValues() {
        MarkRules x = new MarkRules();
        x.place(0, NONE);
        x.mark(1, 2, false);
        c.due("the first", x.row(0), 0);
        fill(x, 99);
        c.due("the 100th", x.instance(0), 99);
        for (int kind = 0; kind <= 3; kind++) {
            c.due("the 101st: KIND " + kind, x.value(kind, 0), FULL);
            c.due("the 101st: a ROW of " + kind, x.row(kind), FULL);
        }
        c.due("the 101st: a ROW of a MARK", x.row(10), FULL);
        c.due("the 101st: an INSTANCE", x.instance(0), FULL);
        c.due("BAD ahead of FULL: kind", x.value(4, 0), BAD);
        c.due("BAD ahead of FULL: v", x.value(2, 5), BAD);
        c.due("BAD ahead of FULL: ROW", x.row(11), BAD);
        c.due("BAD ahead of FULL: INSTANCE", x.instance(1), BAD);
        c.due("there are", x.count(2), 100);
        c.due("the last is one", x.told(99, 0), 2);
        c.due("there is none behind it", x.told(100, 0), BAD);
        c.due("the last can be put", x.put(0, 99), 1);
        c.due("the ROW takes what is there", x.push(0, 98), 1);
    }

    /** "a NUMBER (32 bits)". */
    private static void numbers() {
        MarkRules x = new MarkRules();
        int[] right = {MIN, MIN + 1, -100, -6, -5, -4, -3, -2, -1, 0, 1, 99, 100, MAX - 1, MAX};
        for (int v : right) {
            c.due("NUMBER " + v, x.told(x.value(0, v), 2), v);
        }
        c.due("least and greatest", x.equal(0, right.length - 1), 0);
        int[] wrongKinds = {MIN, -1, 4, 9, 10, 11, MAX};
        for (int kind : wrongKinds) {
            c.due("KIND " + kind, x.value(kind, 0), BAD);
        }
    }

    private static void range(int kind, int last) {
        MarkRules x = new MarkRules();
        int[] wrong = {MIN, -2, -1, last + 1, last + 2, MAX};
        for (int v : wrong) {
            c.due("KIND " + kind + ": " + v, x.value(kind, v), BAD);
        }
        for (int v = 0; v <= last; v++) {
            c.due("KIND " + kind + ": " + v, x.value(kind, v), v);
        }
    }

    /** "a WORD (0 .. 99)". */
    private static void words() {
        range(1, 99);
    }

    /** "a CHOICE (0 .. 4)". */
    private static void choices() {
        range(2, 4);
    }

    /** "a TYPE (a PLACE that is one)". */
    private static void types() {
        MarkRules x = new MarkRules();
        c.due("no PLACE yet", x.value(3, 0), BAD);
        x.place(0, NONE);
        x.place(1, NONE);
        x.place(2, 0);
        x.place(3, 0);
        x.place(4, 1);
        x.place(5, 3);
        x.place(0, 0);
        boolean[] isType = {true, true, false, false, false, false, true, false};
        for (int p = 0; p < isType.length; p++) {
            c.due("PLACE " + p, x.value(3, p) == BAD ? 0 : 1, isType[p] ? 1 : 0);
        }
        c.due("PLACE -1", x.value(3, -1), BAD);
        while (x.count(1) < 40) {
            x.place(0, NONE);
        }
        c.due("the 40th", x.told(x.value(3, 39), 2), 39);
        c.due("the 41st", x.value(3, 40), BAD);
    }

    /** "A ROW of a KIND": BAD of one that is not there. */
    private static void kindsOfRows() {
        MarkRules x = new MarkRules();
        c.due("of a MARK that is not yet there", x.row(10), BAD);
        for (int m = 0; m < 12; m++) {
            x.mark(1, 0, false);
        }
        int[] wrong = {MIN, MIN + 9, MIN + 10, -1, 4, 5, 9, 22, 23, MAX};
        for (int kind : wrong) {
            c.due("KIND " + kind, x.row(kind), BAD);
        }
        for (int m = 0; m < 12; m++) {
            c.due("KIND " + (10 + m), x.row(10 + m), m);
        }
        for (int kind = 0; kind <= 3; kind++) {
            c.due("KIND " + kind, x.row(kind), 12 + kind);
        }
    }

    /** "of up to 4 VALUES of that"; "FULL: 4". */
    private static void fourInARow() {
        MarkRules x = new MarkRules();
        x.mark(1, 0, false);
        int row = x.row(0);
        int number = x.value(0, 1);
        int word = x.value(1, 1);
        c.due("none", x.told(row, 2), 0);
        for (int n = 1; n <= 4; n++) {
            c.due("VALUE " + n, x.push(row, number), n);
        }
        c.due("the 5th", x.push(row, number), FULL);
        c.due("FULL ahead of NULL", x.push(row, NONE), FULL);
        c.due("FULL ahead of STORE", x.push(row, word), FULL);
        c.due("STATE ahead of FULL: they are one", x.push(row, row), STATE);
        c.due("BAD ahead of FULL", x.push(row, 50), BAD);
        c.due("nothing failed", x.count(11) + x.count(13), 0);
        c.due("as many", x.told(row, 2), 4);
        c.due("the last", x.part(row, 3), number);
        c.due("none behind it", x.part(row, 4), NONE);
        int rowOfMark = x.row(10);
        for (int n = 1; n <= 4; n++) {
            x.push(rowOfMark, x.instance(0));
        }
        int fifth = x.instance(0);
        c.due("the 5th INSTANCE", x.push(rowOfMark, fifth), FULL);
        c.due("it is not DONE", x.told(fifth, 3), 0);
    }

    /** "BAD: no such ROW, VALUE (NONE is not BAD)"; "NULL: NONE". */
    private static void pushOfNothing() {
        MarkRules x = new MarkRules();
        x.mark(1, 0, false);
        int row = x.row(0);
        int number = x.value(0, 1);
        int a = x.instance(0);
        for (int far : FAR) {
            c.due("ROW " + far, x.push(far, number), BAD);
            c.due("VALUE " + far, x.push(row, far), far == NONE ? FAILED : BAD);
            c.due("both " + far, x.push(far, far), BAD);
        }
        c.due("NULL", x.cause(), NULL);
        c.due("once", x.count(11), 1);
        c.due("a NUMBER is no ROW", x.push(number, number), BAD);
        c.due("an INSTANCE is no ROW", x.push(a, number), BAD);
        c.due("BAD ahead of NULL", x.push(a, NONE), BAD);
        c.due("the next VALUE is none yet", x.push(row, 3), BAD);
        c.due("the ROW has none", x.told(row, 2), 0);
    }

    /** "or they are one". */
    private static void pushIntoItself() {
        MarkRules x = new MarkRules();
        int row = x.row(0);
        c.due("they are one", x.push(row, row), STATE);
        c.due("STATE ahead of STORE", x.cause(), 0);
        c.due("it is not DONE", x.told(row, 3), 0);
        c.due("a twin is no such", x.push(row, x.row(0)), FAILED);
        c.due("STORE", x.cause(), STORE);
    }

    /** "STORE: it is not of the ROW's KIND." */
    private static void pushOfAnotherKind() {
        MarkRules x = new MarkRules();
        x.place(0, NONE);
        x.mark(1, 0, false);
        x.mark(1, 0, false);
        int[] kinds = {0, 1, 2, 3, 10, 11};
        int stored = 0;
        for (int kind : kinds) {
            int row = x.row(kind);
            for (int other : kinds) {
                int value = other < 10 ? x.value(other, 0) : x.instance(other - 10);
                c.due(other + " into a ROW of " + kind, x.push(row, value), other == kind ? 1 : FAILED);
                c.due("its cause", x.cause(), other == kind ? 0 : STORE);
                c.due("DONE", x.told(value, 3), other == kind && other >= 10 ? 1 : 0);
                stored += other == kind ? 0 : 1;
            }
            c.due("one alone", x.told(row, 2), 1);
        }
        c.due("STORE ever", x.count(13), stored);
    }

    /** "An INSTANCE of a MARK": BAD of none. */
    private static void instanceOfNothing() {
        MarkRules x = new MarkRules();
        c.due("no MARK yet", x.instance(0), BAD);
        for (int m = 0; m < 12; m++) {
            x.mark(1, 0, false);
        }
        int[] wrong = {MIN, -2, -1, 12, 13, 21, MAX};
        for (int mark : wrong) {
            c.due("MARK " + mark, x.instance(mark), BAD);
        }
        c.due("the first MARK", x.told(x.instance(0), 1), 10);
        c.due("the 12th MARK", x.told(x.instance(11), 1), 21);
    }

    /** "BAD: no INSTANCE, no such NAME of its MARK, VALUE (NONE is not BAD)"; "NULL". */
    private static void giveOfNothing() {
        MarkRules x = new MarkRules();
        x.mark(1, 0, false);
        x.mark(1, 0, false);
        x.element(0, 9, 0, false);
        x.element(1, 8, 0, false);
        int number = x.value(0, 1);
        int row = x.row(0);
        int a = x.instance(0);
        for (int far : FAR) {
            c.due("INSTANCE " + far, x.give(far, 9, number), BAD);
            c.due("NAME " + far, x.give(a, far, number), BAD);
            c.due("VALUE " + far, x.give(a, 9, far), far == NONE ? FAILED : BAD);
        }
        c.due("NULL", x.cause(), NULL);
        c.due("once", x.count(11), 1);
        c.due("a NAME of another MARK", x.give(a, 8, number), BAD);
        c.due("a NUMBER is no INSTANCE", x.give(number, 9, number), BAD);
        c.due("a ROW is no INSTANCE", x.give(row, 9, number), BAD);
        c.due("BAD ahead of NULL: INSTANCE", x.give(row, 9, NONE), BAD);
        c.due("BAD ahead of NULL: NAME", x.give(a, 8, NONE), BAD);
        c.due("none was given", x.told(a, 2), 0);
        c.due("NULL does not give", x.part(a, 9), NONE);
        c.due("given", x.give(a, 9, number), 1);
        c.due("BAD ahead of STATE: VALUE", x.give(a, 9, 50), BAD);
        c.due("BAD ahead of STATE: NAME", x.give(a, 8, number), BAD);
        c.due("STATE ahead of NULL", x.give(a, 9, NONE), STATE);
        c.due("STATE ahead of CAST", x.give(a, 9, row), STATE);
        x.push(x.row(10), a);
        c.due("BAD ahead of STATE, of one that is DONE: VALUE", x.give(a, 9, 50), BAD);
        c.due("BAD ahead of STATE, of one that is DONE: NAME", x.give(a, 8, number), BAD);
    }

    /** "or the ELEMENT was given one": once, in place of a DEFAULT too. */
    private static void giveOnce() {
        MarkRules x = new MarkRules();
        x.mark(1, 0, false);
        x.element(0, 0, 0, false);
        x.element(0, 1, 0, true);
        int number = x.value(0, 1);
        x.fallback(0, 0, number);
        int a = x.instance(0);
        c.due("in place of the DEFAULT", x.give(a, 0, number), 1);
        c.due("the second time", x.give(a, 0, number), STATE);
        c.due("a ROW", x.give(a, 1, x.row(0)), 1);
        c.due("a ROW, the second time", x.give(a, 1, x.row(0)), STATE);
        c.due("an INSTANCE beside it", x.give(x.instance(0), 0, number), 1);
        c.due("two were given", x.told(a, 2), 2);
    }

    /** "or they are one". */
    private static void giveToItself() {
        MarkRules x = new MarkRules();
        x.mark(1, 0, false);
        x.mark(1, 0, false);
        x.element(0, 0, 0, false);
        x.element(1, 0, 10, true);
        int a = x.instance(0);
        int b = x.instance(1);
        c.due("they are one: NUMBER", x.give(a, 0, a), STATE);
        c.due("they are one: ROW", x.give(b, 0, b), STATE);
        c.due("STATE ahead of CAST", x.count(12), 0);
        c.due("it is not DONE", x.told(a, 3) + x.told(b, 3), 0);
    }

    /** "FULL: the new ROW would be the 101st VALUE". */
    private static void giveTheLastValue() {
        MarkRules x = new MarkRules();
        x.mark(1, 0, false);
        x.mark(1, 0, false);
        x.element(1, 0, 10, true);
        x.element(1, 1, 10, true);
        x.element(1, 2, 0, false);
        int a = x.instance(0);
        int b = x.instance(0);
        int holder = x.instance(1);
        int row = x.row(10);
        fill(x, 99);
        c.due("the 100th VALUE", x.give(holder, 0, a), 1);
        c.due("which is the ROW", x.part(holder, 0), 99);
        c.due("the 101st", x.give(holder, 1, b), FULL);
        c.due("it is not DONE", x.told(b, 3), 0);
        c.due("the ELEMENT has none", x.part(holder, 1), NONE);
        c.due("one was given", x.told(holder, 2), 1);
        c.due("there are", x.count(2), 100);
        c.due("BAD ahead of FULL", x.give(holder, 3, b), BAD);
        c.due("STATE ahead of FULL", x.give(holder, 1, a), STATE);
        c.due("no ROW is made of NONE", x.give(holder, 1, NONE), FAILED);
        c.due("no ROW is made of another KIND", x.give(holder, 1, 50), FAILED);
        c.due("no ROW is made for no ROW", x.give(holder, 2, 50), 1);
        c.due("no ROW is made of a ROW", x.give(holder, 1, row), 1);
    }

    /** "it is WANTED AS one of its KIND (CAST), or, if the ELEMENT is a ROW, as a ROW of that KIND". */
    private static void giveAnotherKind() {
        int[] kinds = {0, 1, 2, 3, 10, 11};
        for (int kind : kinds) {
            for (int other : kinds) {
                for (int way = 0; way < 4; way++) {
                    giveOf(kind, (way & 1) == 1, other, (way & 2) == 2);
                }
            }
        }
    }

    private static void giveOf(int kind, boolean wantsRow, int other, boolean isRow) {
        MarkRules x = new MarkRules();
        x.place(0, NONE);
        for (int m = 0; m < 3; m++) {
            x.mark(1, 0, false);
        }
        x.element(2, 5, kind, wantsRow);
        int value = isRow ? x.row(other) : other < 10 ? x.value(other, 0) : x.instance(other - 10);
        int holder = x.instance(2);
        boolean fits = kind == other && (wantsRow || !isRow);
        boolean wraps = fits && wantsRow && !isRow;
        String what = (isRow ? "a ROW of " : "one of ") + other + " for " + (wantsRow ? "a ROW of " : "one of ") + kind;
        c.due(what, x.give(holder, 5, value), fits ? 1 : FAILED);
        c.due(what + ": cause", x.cause(), fits ? 0 : CAST);
        c.due(what + ": CAST ever", x.count(12), fits ? 0 : 1);
        c.due(what + ": VALUES", x.count(2), wraps ? 3 : 2);
        c.due(what + ": the ELEMENT", x.part(holder, 5), !fits ? NONE : wraps ? 2 : value);
        c.due(what + ": DONE", x.told(value, 3), fits && (isRow || other >= 10) ? 1 : 0);
        c.due(what + ": the new ROW has it", x.part(2, 0), wraps ? value : BAD);
    }

    /** "The latest FAILURE of fallback(), push(), give() .. (0: it had none)". */
    private static void causeOfTheLatest() {
        MarkRules x = new MarkRules();
        x.mark(1, 0, false);
        x.mark(1, 0, false);
        x.element(0, 0, 0, false);
        x.element(1, 0, 0, false);
        int number = x.value(0, 0);
        int row = x.row(0);
        int a = x.instance(0);
        c.due("of none", x.cause(), 0);
        x.push(row, NONE);
        c.due("NULL of push", x.cause(), NULL);
        x.push(row, a);
        c.due("STORE of push", x.cause(), STORE);
        x.push(row, number);
        c.due("a push that went well", x.cause(), 0);
        x.give(a, 0, NONE);
        c.due("NULL of give", x.cause(), NULL);
        x.give(a, 0, row);
        c.due("CAST of give", x.cause(), CAST);
        x.give(a, 0, number);
        c.due("a give that went well", x.cause(), 0);
        x.fallback(1, 0, NONE);
        c.due("NULL of fallback", x.cause(), NULL);
        x.fallback(1, 0, row);
        c.due("CAST of fallback", x.cause(), CAST);
        x.fallback(1, 0, number);
        c.due("a fallback that went well", x.cause(), 0);
        c.due("NULL ever", x.count(11), 3);
        c.due("CAST ever", x.count(12), 2);
        c.due("STORE ever", x.count(13), 1);
    }

    /** ".. that was not BAD, STATE, FULL". */
    private static void causeStays() {
        MarkRules x = new MarkRules();
        x.place(0, NONE);
        x.mark(1, 0, false);
        x.mark(1, 0, false);
        x.element(0, 0, 0, true);
        x.element(1, 0, 0, true);
        int fullRow = x.row(0);
        int number = x.value(0, 0);
        int a = x.instance(0);
        for (int n = 0; n < 4; n++) {
            x.push(fullRow, number);
        }
        int hollow = x.instance(0);
        fill(x, 100);
        x.give(a, 0, hollow);
        c.due("CAST", x.cause(), CAST);
        c.due("BAD of push", x.push(number, number), BAD);
        c.due("STATE of push", x.push(fullRow, fullRow), STATE);
        c.due("FULL of push", x.push(fullRow, number), FULL);
        c.due("BAD of give", x.give(a, 1, number), BAD);
        c.due("STATE of give", x.give(a, 0, a), STATE);
        c.due("FULL of give", x.give(a, 0, number), FULL);
        c.due("BAD of fallback", x.fallback(1, 1, number), BAD);
        c.due("STATE of fallback", x.fallback(0, 0, number), STATE);
        c.due("FULL of fallback", x.fallback(1, 0, number), FULL);
        c.due("put", x.put(0, hollow), -12);
        c.due("value", x.value(0, 0), FULL);
        c.due("it stays", x.cause(), CAST);
        c.due("by asking too", x.cause(), CAST);
        c.due("none counts as a FAILURE", x.count(11) + x.count(12) + x.count(13), 1);
    }

    /** "BAD" of told(). */
    private static void toldOfNothing() {
        MarkRules x = new MarkRules();
        x.value(0, 7);
        for (int far : FAR) {
            c.due("VALUE " + far, x.told(far, 0), BAD);
            c.due("what " + far, x.told(0, far), BAD);
        }
        c.due("the next VALUE", x.told(1, 0), BAD);
        c.due("what 5", x.told(0, 5), BAD);
        c.due("what 4", x.told(0, 4), 1);
        c.due("what 0", x.told(0, 0), 0);
    }

    /** "(A number may be any.)": one of the answers, too. */
    private static void toldOfAnyNumber() {
        MarkRules x = new MarkRules();
        for (int number = -6; number <= 0; number++) {
            c.due("NUMBER " + number, x.told(x.value(0, number), 2), number);
        }
    }

    /** "It is WHOLE, if each has one": of no ELEMENTS each has; "a ROW is, if its VALUES are": of none all are. */
    private static void wholeWithoutElements() {
        MarkRules x = new MarkRules();
        x.mark(1, 0, false);
        c.due("an INSTANCE of a MARK without ELEMENTS", x.told(x.instance(0), 4), 1);
        c.due("a ROW without VALUES", x.told(x.row(10), 4), 1);
        for (int kind = 0; kind <= 2; kind++) {
            c.due("KIND " + kind, x.told(x.value(kind, 0), 4), 1);
        }
    }

    /** "if each has one of both": the one given or the DEFAULT, for the first and the last of five. */
    private static void wholeByBoth() {
        for (int missing = 0; missing <= 5; missing++) {
            MarkRules x = new MarkRules();
            x.mark(1, 0, false);
            int number = x.value(0, 0);
            for (int name = 0; name < 5; name++) {
                x.element(0, name, 0, false);
                if (name % 2 == 0 && name != missing) {
                    x.fallback(0, name, number);
                }
            }
            int a = x.instance(0);
            for (int name = 1; name < 5; name += 2) {
                if (name != missing) {
                    x.give(a, name, number);
                }
            }
            c.due("without " + missing, x.told(a, 4), missing == 5 ? 1 : 0);
        }
    }

    /** "VALUE k of a ROW; .. NONE: there is none." */
    private static void partsOfARow() {
        MarkRules x = new MarkRules();
        int row = x.row(0);
        int next = x.row(0);
        for (int n = 0; n < 4; n++) {
            x.push(next, x.value(0, n));
        }
        for (int far : FAR) {
            c.due("VALUE " + far + " of an empty ROW", x.part(row, far), NONE);
            c.due("VALUE " + far + " of a full ROW", x.part(next, far), NONE);
        }
        for (int n = 0; n < 6; n++) {
            c.due("VALUE " + n + " of an empty ROW", x.part(row, n), NONE);
            c.due("VALUE " + n + " of a full ROW", x.part(next, n), n < 4 ? 2 + n : NONE);
        }
        c.due("a refused one is none", x.push(row, NONE), FAILED);
        c.due("VALUE 0", x.part(row, 0), NONE);
    }

    /** "the VALUE of an INSTANCE's ELEMENT with NAME k"; "BAD: no ROW, INSTANCE." */
    private static void partsOfAnInstance() {
        MarkRules x = new MarkRules();
        x.mark(1, 0, false);
        x.element(0, 9, 0, false);
        x.element(0, 0, 0, false);
        int number = x.value(0, 0);
        int a = x.instance(0);
        x.give(a, 9, number);
        for (int far : FAR) {
            c.due("NAME " + far, x.part(a, far), NONE);
            c.due("VALUE " + far, x.part(far, 0), BAD);
        }
        for (int name = 0; name <= 10; name++) {
            c.due("NAME " + name, x.part(a, name), name == 9 ? number : NONE);
            c.due("of a NUMBER " + name, x.part(number, name), BAD);
        }
        c.due("the next VALUE", x.part(2, 0), BAD);
    }

    /** "BAD" of equal(). */
    private static void equalOfNothing() {
        MarkRules x = new MarkRules();
        x.value(0, 7);
        for (int far : FAR) {
            c.due("a " + far, x.equal(far, 0), BAD);
            c.due("b " + far, x.equal(0, far), BAD);
            c.due("both " + far, x.equal(far, far), BAD);
        }
        c.due("the next VALUE", x.equal(1, 1), BAD);
        c.due("the first", x.equal(0, 0), 1);
    }

    /** "ROWS of one KIND with as many VALUES"; "INSTANCES of one MARK all whose ELEMENTS are EQUAL (or have none both)". */
    private static void equalEmpty() {
        MarkRules x = new MarkRules();
        x.mark(1, 0, false);
        x.mark(1, 0, false);
        c.due("empty ROWS of one KIND", x.equal(x.row(1), x.row(1)), 1);
        c.due("empty ROWS of two KINDS", x.equal(x.row(1), x.row(2)), 0);
        c.due("empty ROWS of two MARKS", x.equal(x.row(10), x.row(11)), 0);
        c.due("INSTANCES without ELEMENTS", x.equal(x.instance(0), x.instance(0)), 1);
        c.due("of two MARKS", x.equal(x.instance(0), x.instance(1)), 0);
        c.due("an INSTANCE and an empty ROW of it", x.equal(x.instance(0), x.row(10)), 0);
        c.due("NUMBER 0 and an empty ROW of NUMBERS", x.equal(x.value(0, 0), x.row(0)), 0);
    }

    /** "AN INSTANCE's ELEMENT has the VALUE that was given, else the DEFAULT": EQUAL by either. */
    private static void equalByDefault() {
        MarkRules x = new MarkRules();
        x.mark(1, 0, false);
        x.element(0, 0, 0, false);
        x.fallback(0, 0, x.value(0, 5));
        int byDefault = x.instance(0);
        int given = x.instance(0);
        int other = x.instance(0);
        x.give(given, 0, x.value(0, 5));
        x.give(other, 0, x.value(0, -5));
        c.due("by DEFAULT and given", x.equal(byDefault, given), 1);
        c.due("given and by DEFAULT", x.equal(given, byDefault), 1);
        c.due("both by DEFAULT", x.equal(byDefault, x.instance(0)), 1);
        c.due("another than the DEFAULT", x.equal(byDefault, other), 0);
    }

    /** "EQUAL one by one": the last of four, the last of five. */
    private static void equalToTheLast() {
        MarkRules x = new MarkRules();
        x.mark(1, 0, false);
        for (int name = 5; name < 10; name++) {
            x.element(0, name, 0, false);
        }
        int one = x.value(0, 1);
        int two = x.value(0, 2);
        int a = x.row(0);
        int b = x.row(0);
        for (int n = 0; n < 3; n++) {
            x.push(a, one);
            x.push(b, one);
        }
        c.due("three", x.equal(a, b), 1);
        x.push(a, one);
        c.due("four and three", x.equal(a, b), 0);
        c.due("three and four", x.equal(b, a), 0);
        x.push(b, two);
        c.due("the 4th differs", x.equal(a, b), 0);
        int i = x.instance(0);
        int j = x.instance(0);
        for (int name = 5; name < 9; name++) {
            x.give(i, name, one);
            x.give(j, name, one);
        }
        c.due("four ELEMENTS, no 5th", x.equal(i, j), 1);
        x.give(i, 9, one);
        c.due("the 5th of one alone", x.equal(i, j), 0);
        c.due("the 5th of the other alone", x.equal(j, i), 0);
        x.give(j, 9, two);
        c.due("the 5th differs", x.equal(i, j), 0);
    }

    /** "BAD" of written(). */
    private static void writtenOfNothing() {
        MarkRules x = new MarkRules();
        x.value(0, -12);
        c.due("written", x.written(0), 3);
        for (int far : FAR) {
            c.due("VALUE " + far, x.written(far), BAD);
        }
        c.due("the next VALUE", x.written(1), BAD);
        c.due("the text stays", x.letter(2), '2');
        c.due("to its end", x.letter(3), NONE);
    }

    /** MARK 0, all by DEFAULT, has 263 bytes; an INSTANCE of MARK 1 has eight of these. */
    private static int longOne(MarkRules x) {
        x.mark(1, 0, false);
        x.mark(1, 0, false);
        int number = x.value(0, MIN);
        for (int name = 0; name < 5; name++) {
            int row = x.row(0);
            for (int n = 0; n < 4; n++) {
                x.push(row, number);
            }
            x.element(0, name, 0, true);
            x.fallback(0, name, row);
            x.element(1, name, 10, true);
        }
        int top = x.instance(1);
        for (int name = 0; name < 2; name++) {
            int row = x.row(10);
            for (int n = 0; n < 4; n++) {
                x.push(row, x.instance(0));
            }
            x.give(top, name, row);
        }
        return top;
    }

    /** "FULL: more than 2000 (what was WRITTEN before stays)": nothing, if nothing was. */
    private static void writtenTooLongFirst() {
        MarkRules x = new MarkRules();
        int top = longOne(x);
        c.due("too long", x.written(top), FULL);
        c.due("nothing was WRITTEN", x.letter(0), NONE);
        int row = x.part(top, 1);
        c.due("a part of it", x.written(row), 4 * 263 + 5);
        c.due("its first", x.letter(0), '{');
        c.due("its last", x.letter(4 * 263 + 4), '}');
        c.due("too long again", x.written(top), FULL);
        c.due("its first stays", x.letter(0), '{');
        c.due("its second stays", x.letter(1), '@');
        c.due("its last stays", x.letter(4 * 263 + 4), '}');
        c.due("its end stays", x.letter(4 * 263 + 5), NONE);
        c.text("a short one behind it", x, x.value(2, 0), "c0");
    }

    /** "digits of a NUMBER (- ahead), WORD, CHOICE, TYPE": the least and the greatest of each; what is empty. */
    private static void writtenAtTheEnds() {
        MarkRules x = new MarkRules();
        for (int p = 0; p < 40; p++) {
            x.place(0, NONE);
        }
        for (int m = 0; m < 12; m++) {
            x.mark(1, 0, false);
        }
        x.element(11, 9, 3, true);
        c.text("least NUMBER", x, x.value(0, MIN), "-2147483648");
        c.text("greatest NUMBER", x, x.value(0, MAX), "2147483647");
        c.text("NUMBER 0", x, x.value(0, 0), "0");
        c.text("NUMBER -1", x, x.value(0, -1), "-1");
        c.text("least WORD", x, x.value(1, 0), "w0");
        c.text("WORD 9", x, x.value(1, 9), "w9");
        c.text("WORD 10", x, x.value(1, 10), "w10");
        c.text("greatest WORD", x, x.value(1, 99), "w99");
        c.text("least CHOICE", x, x.value(2, 0), "c0");
        c.text("greatest CHOICE", x, x.value(2, 4), "c4");
        c.text("least TYPE", x, x.value(3, 0), "t0");
        c.text("greatest TYPE", x, x.value(3, 39), "t39");
        c.text("an empty ROW", x, x.row(21), "{}");
        c.text("no ELEMENTS", x, x.instance(10), "@10()");
        int a = x.instance(11);
        c.text("no ELEMENT has a VALUE", x, a, "@11()");
        x.give(a, 9, x.row(3));
        c.text("an empty ROW in it", x, a, "@11(9={})");
    }

    /** "Byte i of what was WRITTEN latest; NONE." */
    private static void letterOfNothing() {
        MarkRules x = new MarkRules();
        for (int far : FAR) {
            c.due("nothing was WRITTEN: " + far, x.letter(far), NONE);
        }
        x.written(x.value(1, 42));
        for (int far : FAR) {
            c.due("letter " + far, x.letter(far), NONE);
        }
        c.due("the last", x.letter(2), '2');
        c.due("behind it", x.letter(3), NONE);
        c.due("at the limit", x.letter(1999), NONE);
        c.due("behind the limit", x.letter(2000), NONE);
    }
}
