/**
 * "A ROW, an INSTANCE is DONE when it came into a ROW, was given to an ELEMENT, told as a DEFAULT or put at a PLACE:
 * it never changes any more then, and none of that can be done with it again; others are never DONE, and may come
 * anywhere any number of times."
 */
public final class DoneTest {
    private static final int NONE = MarkRules.NONE, BAD = MarkRules.BAD;
    private static final int STATE = MarkRules.STATE, FAILED = MarkRules.FAILED;
    private static final int INTO_A_ROW = 0, GIVEN = 1, GIVEN_FOR_A_ROW = 2, TOLD = 3, TOLD_FOR_A_ROW = 4, PUT = 5;
    private static final Check c = new Check("DoneTest");

    public static void main(String[] args) {
        c.promise(9);
        doneInstances();
        doneRows();
        doneAsTheNewRow();
        c.promise(14);
        othersAreNeverDone();
        failedIsNotDone();
        refusedIsNotDone();
        holdersAreNotDone();
        c.end();
    }

    /**
     * MARK 0 has two NUMBERS by DEFAULT; MARKS 1 and 2 have one of MARK 0 as ELEMENT 0, a ROW of these as 1,
     * and a ROW of NUMBERS as 2. There is never an INSTANCE of MARK 2, so that its DEFAULTS may be told.
     */
    private static MarkRules threeMarks() {
        MarkRules x = new MarkRules();
        x.place(0, NONE);
        x.place(0, NONE);
        for (int m = 0; m < 3; m++) {
            x.mark(1, 2, false);
        }
        int number = x.value(0, 5);
        for (int name = 0; name < 2; name++) {
            x.element(0, name, 0, false);
            x.fallback(0, name, number);
        }
        for (int m = 1; m < 3; m++) {
            x.element(m, 0, 10, false);
            x.element(m, 1, 10, true);
            x.element(m, 2, 0, true);
        }
        return x;
    }

    private static int finish(MarkRules x, int a, int way) {
        switch (way) {
            case INTO_A_ROW:
                return x.push(x.row(10), a);
            case GIVEN:
                return x.give(x.instance(1), 0, a);
            case GIVEN_FOR_A_ROW:
                return x.give(x.instance(1), 1, a);
            case TOLD:
                return x.fallback(2, 0, a);
            case TOLD_FOR_A_ROW:
                return x.fallback(2, 1, a);
            default:
                return x.put(0, a);
        }
    }

    private static void doneInstances() {
        for (int way = INTO_A_ROW; way <= PUT; way++) {
            MarkRules x = threeMarks();
            int a = x.instance(0);
            c.due("not DONE before " + way, x.told(a, 3), 0);
            c.due("it may be given to before " + way, x.give(a, 0, x.value(0, 6)), 1);
            c.due("way " + way, finish(x, a, way), 1);
            c.due("DONE by " + way, x.told(a, 3), 1);
            for (int again = INTO_A_ROW; again <= PUT; again++) {
                c.due("way " + again + " after " + way, finish(x, a, again), STATE);
            }
            c.due("it never changes after " + way, x.give(a, 1, x.value(0, 7)), STATE);
            c.due("it is as it was after " + way, x.told(a, 2), 1);
            c.due("it stays DONE after " + way, x.told(a, 3), 1);
            c.text("it is written as it was after " + way, x, a, "@0(0=6,1=5)");
        }
    }

    private static int finishRow(MarkRules x, int row, boolean told) {
        return told ? x.fallback(2, 2, row) : x.give(x.instance(1), 2, row);
    }

    private static void cannotBeUsed(MarkRules x, int row, int number, String when) {
        c.due("DONE " + when, x.told(row, 3), 1);
        c.due("given again " + when, finishRow(x, row, false), STATE);
        c.due("told again " + when, finishRow(x, row, true), STATE);
        c.due("into a ROW " + when, x.push(x.row(0), row), STATE);
        c.due("a VALUE comes into it " + when, x.push(row, number), STATE);
        c.due("put " + when, x.put(0, row), BAD);
        c.due("it is as it was " + when, x.told(row, 2), 1);
    }

    private static void doneRows() {
        for (int way = 0; way < 2; way++) {
            MarkRules x = threeMarks();
            int row = x.row(0);
            int number = x.value(0, 6);
            c.due("not DONE", x.told(row, 3), 0);
            x.push(row, number);
            c.due("not DONE by what came into it", x.told(row, 3), 0);
            c.due("given or told", finishRow(x, row, way == 1), 1);
            cannotBeUsed(x, row, number, way == 1 ? "after being told" : "after being given");
        }
    }

    /** "of a VALUE of the KIND itself a new ROW is made that has it alone, which is given": it is DONE then. */
    private static void doneAsTheNewRow() {
        for (int way = 0; way < 2; way++) {
            MarkRules x = threeMarks();
            int number = x.value(0, 6);
            c.due("given or told", finishRow(x, number, way == 1), 1);
            int row = x.count(2) - 1;
            c.due("it is new", x.told(row, 0), 1);
            c.due("it has the VALUE", x.part(row, 0), number);
            c.due("the NUMBER is not DONE", x.told(number, 3), 0);
            cannotBeUsed(x, row, number, way == 1 ? "made for a DEFAULT" : "made for an ELEMENT");
        }
    }

    private static void othersAreNeverDone() {
        for (int kind = 0; kind <= 3; kind++) {
            MarkRules x = new MarkRules();
            x.place(0, NONE);
            x.mark(1, 0, false);
            x.mark(1, 0, false);
            for (int m = 0; m < 2; m++) {
                x.element(m, 0, kind, false);
                x.element(m, 1, kind, true);
            }
            int value = x.value(kind, 0);
            int first = x.row(kind);
            int second = x.row(kind);
            for (int n = 1; n <= 4; n++) {
                c.due("into one ROW", x.push(first, value), n);
                c.due("into another ROW", x.push(second, value), n);
            }
            for (int n = 0; n < 3; n++) {
                c.due("told", x.fallback(1, 0, value), 1);
                c.due("told for a ROW", x.fallback(1, 1, value), 1);
                int a = x.instance(0);
                c.due("given", x.give(a, 0, value), 1);
                c.due("given for a ROW", x.give(a, 1, value), 1);
            }
            c.due("never DONE", x.told(value, 3), 0);
        }
    }

    private static void failedIsNotDone() {
        MarkRules x = threeMarks();
        int a = x.instance(0);
        int row = x.row(1);
        int b = x.instance(1);
        c.due("STORE", x.push(row, a), FAILED);
        c.due("CAST of give", x.give(b, 2, a), FAILED);
        c.due("CAST of fallback", x.fallback(2, 2, a), FAILED);
        c.due("STORE of a ROW", x.push(x.row(10), row), FAILED);
        c.due("CAST of give of a ROW", x.give(b, 2, row), FAILED);
        c.due("CAST of fallback of a ROW", x.fallback(2, 2, row), FAILED);
        c.due("not DONE", x.told(a, 3) + x.told(row, 3), 0);
        c.due("it may still be given", x.give(b, 1, a), 1);
    }

    private static void refusedIsNotDone() {
        MarkRules x = threeMarks();
        x.mark(0, 0, false);
        int nowhere = x.instance(3);
        c.due("-11", x.put(0, nowhere), -11);
        c.due("not DONE by RULE 1", x.told(nowhere, 3), 0);
        int hollow = x.instance(1);
        c.due("-12", x.put(0, hollow), -12);
        c.due("not DONE by RULE 2", x.told(hollow, 3), 0);
        int first = x.instance(0);
        int second = x.instance(0);
        x.put(0, first);
        c.due("-13", x.put(0, second), -13);
        c.due("not DONE by RULE 3", x.told(second, 3), 0);
        c.due("it may still be put", x.put(1, second), 1);
        int third = x.instance(0);
        c.due("BAD", x.give(hollow, 9, third), BAD);
        x.give(hollow, 0, third);
        int fourth = x.instance(0);
        c.due("STATE: the ELEMENT was given one", x.give(hollow, 0, fourth), STATE);
        c.due("not DONE by that", x.told(fourth, 3), 0);
    }

    private static void holdersAreNotDone() {
        MarkRules x = threeMarks();
        int row = x.row(10);
        int b = x.instance(1);
        x.push(row, x.instance(0));
        c.due("the ROW is not DONE", x.told(row, 3), 0);
        x.give(b, 1, row);
        c.due("the INSTANCE is not DONE", x.told(b, 3), 0);
        c.due("it takes more", x.give(b, 0, x.instance(0)), 1);
        c.due("it takes a ROW", x.give(b, 2, x.row(0)), 1);
        c.due("it is put", x.put(0, b), 1);
        c.due("DONE then", x.told(b, 3), 1);
    }
}
