/** Promises 6 to 11 and 13 to 16: places, values, rows, instances, failures, parts, equality. */
public final class ValuesTest {
    private static final int NONE = MarkRules.NONE, BAD = MarkRules.BAD, FULL = MarkRules.FULL;
    private static final int STATE = MarkRules.STATE, FAILED = MarkRules.FAILED;
    private static final int MIN = Integer.MIN_VALUE, MAX = Integer.MAX_VALUE;
    private static final Check c = new Check("ValuesTest");

    public static void main(String[] args) {
        c.promise(6);
        place();
        placeFull();
        c.promise(7);
        value();
        c.promise(8);
        row();
        c.promise(9);
        push();
        pushState();
        c.promise(10);
        instance();
        c.promise(11);
        give();
        giveRows();
        giveState();
        giveFull();
        c.promise(13);
        cause();
        c.promise(14);
        told();
        whole();
        c.promise(15);
        part();
        c.promise(16);
        equalSimple();
        equalRows();
        equalInstances();
        equalFiveElements();
        c.end();
    }

    private static void place() {
        MarkRules x = new MarkRules();
        c.due("kind -1", x.place(-1, NONE), BAD);
        c.due("kind 6", x.place(6, NONE), BAD);
        c.due("a PARENT that is not there", x.place(0, 0), BAD);
        c.due("of -2", x.place(0, -2), BAD);
        c.due("CLASS", x.place(0, NONE), 0);
        c.due("FACE", x.place(1, NONE), 1);
        c.due("FIELD", x.place(2, 0), 2);
        c.due("METHOD", x.place(3, 1), 3);
        c.due("METHOD that gives nothing", x.place(4, 0), 4);
        c.due("PARAMETER", x.place(5, 3), 5);
        c.due("PARAMETER", x.place(5, 4), 6);
        c.due("CLASS with a PARENT", x.place(0, 0), 7);
        int[] noKinds = {MIN, -2, -1, 6, 7, MAX};
        for (int kind : noKinds) {
            c.due("kind " + kind + " of a TYPE", x.place(kind, 0), BAD);
            c.due("kind " + kind + " of a METHOD", x.place(kind, 3), BAD);
            c.due("kind " + kind + " of NONE", x.place(kind, NONE), BAD);
        }
        for (int of = 1; of <= 6; of++) {
            c.due("a PARENT that is no CLASS: " + of, x.place(0, of), BAD);
        }
        c.due("FACE of a FACE", x.place(1, 1), BAD);
        c.due("FACE of -2", x.place(1, -2), BAD);
        for (int kind = 2; kind <= 4; kind++) {
            for (int of = 2; of <= 6; of++) {
                c.due("MEMBER of no TYPE: " + kind + ", " + of, x.place(kind, of), BAD);
            }
            c.due("MEMBER of NONE: " + kind, x.place(kind, NONE), BAD);
            c.due("MEMBER of none such: " + kind, x.place(kind, 8), BAD);
        }
        int[] noMethods = {NONE, 0, 1, 2, 5, 8, MAX};
        for (int of : noMethods) {
            c.due("PARAMETER of no METHOD: " + of, x.place(5, of), BAD);
        }
        c.due("count", x.count(1), 8);
    }

    private static void placeFull() {
        MarkRules x = new MarkRules();
        for (int p = 0; p < 40; p++) {
            c.due("place " + p, x.place(0, p - 1), p);
        }
        c.due("the 41st", x.place(0, 39), FULL);
        c.due("BAD ahead of FULL", x.place(0, 40), BAD);
        c.due("count", x.count(1), 40);
    }

    private static void value() {
        MarkRules x = new MarkRules();
        x.place(0, NONE);
        x.place(1, NONE);
        x.place(2, 0);
        x.mark(1, 0, false);
        int[][] wrong = {{-1, 0}, {4, 0}, {10, 0}, {1, -1}, {1, 100}, {2, -1}, {2, 5}, {3, -1}, {3, 2}, {3, 3}, {1, MIN}, {2, MAX}, {3, MAX}};
        for (int[] pair : wrong) {
            c.due("value " + pair[0] + ", " + pair[1], x.value(pair[0], pair[1]), BAD);
        }
        int[][] right = {{0, MIN}, {0, MAX}, {0, -1}, {1, 0}, {1, 99}, {2, 0}, {2, 4}, {3, 0}, {3, 1}};
        for (int v = 0; v < right.length; v++) {
            c.due("value " + right[v][0] + ", " + right[v][1], x.value(right[v][0], right[v][1]), v);
            c.due("its KIND", x.told(v, 1), right[v][0]);
            c.due("its number", x.told(v, 2), right[v][1]);
        }
        for (int v = right.length; v < 100; v++) {
            c.due("value " + v, x.value(0, 7), v);
        }
        c.due("the 101st", x.value(0, 7), FULL);
        c.due("BAD ahead of FULL", x.value(1, 100), BAD);
        c.due("row", x.row(0), FULL);
        c.due("row, BAD ahead of FULL", x.row(4), BAD);
        c.due("instance", x.instance(0), FULL);
        c.due("instance, BAD ahead of FULL", x.instance(1), BAD);
        c.due("no INSTANCE came to be", x.element(0, 0, 0, false), 1);
        c.due("count", x.count(2), 100);
    }

    private static void row() {
        MarkRules x = new MarkRules();
        x.mark(1, 0, false);
        int[] wrong = {-1, 4, 9, 11, MIN, MAX};
        for (int kind : wrong) {
            c.due("row " + kind, x.row(kind), BAD);
        }
        int[] right = {0, 1, 2, 3, 10};
        for (int v = 0; v < right.length; v++) {
            c.due("row " + right[v], x.row(right[v]), v);
            c.due("a ROW", x.told(v, 0), 1);
            c.due("its KIND", x.told(v, 1), right[v]);
            c.due("no VALUES", x.told(v, 2), 0);
            c.due("not DONE", x.told(v, 3), 0);
        }
        c.due("a ROW of a MARK is no INSTANCE of it", x.element(0, 0, 0, false), 1);
    }

    private static void push() {
        MarkRules x = new MarkRules();
        x.mark(1, 0, false);
        int row = x.row(0);
        int number = x.value(0, 3);
        int word = x.value(1, 3);
        int rowOfNumbers = x.row(0);
        int rowOfMark = x.row(10);
        int a = x.instance(0);
        c.due("row -1", x.push(-1, number), BAD);
        c.due("no such VALUE", x.push(6, number), BAD);
        c.due("no ROW, but a NUMBER", x.push(number, number), BAD);
        c.due("no ROW, but an INSTANCE", x.push(a, number), BAD);
        c.due("value 6", x.push(row, 6), BAD);
        c.due("value -2", x.push(row, -2), BAD);
        c.due("NONE", x.push(row, NONE), FAILED);
        c.due("NULL", x.cause(), 1);
        c.due("another KIND", x.push(row, word), FAILED);
        c.due("STORE", x.cause(), 3);
        c.due("a ROW of its KIND", x.push(row, rowOfNumbers), FAILED);
        c.due("an INSTANCE", x.push(row, a), FAILED);
        c.due("what failed is not DONE", x.told(a, 3) + x.told(rowOfNumbers, 3), 0);
        for (int n = 1; n <= 4; n++) {
            c.due("the same NUMBER", x.push(row, number), n);
        }
        c.due("cause is gone", x.cause(), 0);
        c.due("the 5th", x.push(row, number), FULL);
        c.due("FULL ahead of NULL", x.push(row, NONE), FULL);
        c.due("FULL ahead of STORE", x.push(row, word), FULL);
        c.due("how many", x.told(row, 2), 4);
        c.due("an INSTANCE into its ROW", x.push(rowOfMark, a), 1);
        c.due("is DONE", x.told(a, 3), 1);
        c.due("the ROW is not", x.told(rowOfMark, 3), 0);
    }

    private static void pushState() {
        MarkRules x = new MarkRules();
        x.mark(1, 0, false);
        x.mark(1, 0, false);
        x.element(1, 0, 10, true);
        int first = x.row(10);
        int second = x.row(10);
        int a = x.instance(0);
        x.push(first, a);
        c.due("the VALUE is DONE", x.push(second, a), STATE);
        c.due("they are one", x.push(second, second), STATE);
        int holder = x.instance(1);
        x.give(holder, 0, first);
        c.due("the ROW is DONE", x.push(first, x.instance(0)), STATE);
        c.due("STATE ahead of NULL", x.push(first, NONE), STATE);
        c.due("DONE ahead of STORE", x.push(x.row(0), a), STATE);
        for (int n = 0; n < 4; n++) {
            x.push(second, x.instance(0));
        }
        c.due("STATE ahead of FULL", x.push(second, a), STATE);
    }

    private static void instance() {
        MarkRules x = new MarkRules();
        c.due("no MARK", x.instance(0), BAD);
        x.mark(1, 0, false);
        x.mark(1, 0, false);
        x.element(1, 3, 0, false);
        c.due("mark -1", x.instance(-1), BAD);
        c.due("mark 2", x.instance(2), BAD);
        c.due("instance", x.instance(1), 0);
        c.due("an INSTANCE", x.told(0, 0), 2);
        c.due("its KIND", x.told(0, 1), 11);
        c.due("none given", x.told(0, 2), 0);
        c.due("not DONE", x.told(0, 3), 0);
    }

    private static void give() {
        MarkRules x = new MarkRules();
        x.place(0, NONE);
        x.mark(1, 0, false);
        for (int kind = 0; kind <= 3; kind++) {
            x.element(0, 9 - kind, kind, false);
        }
        x.mark(1, 0, false);
        x.element(1, 0, 10, false);
        int a = x.instance(0);
        int[] simple = {x.value(0, 0), x.value(1, 0), x.value(2, 0), x.value(3, 0)};
        c.due("instance -1", x.give(-1, 9, simple[0]), BAD);
        c.due("no INSTANCE", x.give(simple[0], 9, simple[0]), BAD);
        c.due("a ROW", x.give(x.row(10), 9, simple[0]), BAD);
        c.due("no such NAME", x.give(a, 5, simple[0]), BAD);
        c.due("name -1", x.give(a, -1, simple[0]), BAD);
        c.due("value -2", x.give(a, 9, -2), BAD);
        c.due("value 99", x.give(a, 9, 99), BAD);
        c.due("NONE", x.give(a, 9, NONE), FAILED);
        c.due("NULL", x.cause(), 1);
        for (int kind = 0; kind <= 3; kind++) {
            for (int other = 0; other <= 3; other++) {
                if (other != kind) {
                    c.due("CAST " + kind + ", " + other, x.give(a, 9 - kind, simple[other]), FAILED);
                    c.due("CAST", x.cause(), 2);
                }
            }
            c.due("a ROW of it", x.give(a, 9 - kind, x.row(kind)), FAILED);
            c.due("given " + kind, x.give(a, 9 - kind, simple[kind]), 1);
            c.due("how many", x.told(a, 2), kind + 1);
        }
        int b = x.instance(1);
        c.due("an INSTANCE of another MARK", x.give(b, 0, x.instance(1)), FAILED);
        c.due("CAST", x.cause(), 2);
        c.due("an INSTANCE", x.give(b, 0, a), 1);
        c.due("it is DONE", x.told(a, 3), 1);
        c.due("its holder is not", x.told(b, 3), 0);
    }

    private static void giveRows() {
        MarkRules x = new MarkRules();
        x.mark(1, 0, false);
        x.mark(1, 0, false);
        x.element(1, 0, 10, true);
        x.element(1, 1, 0, true);
        int a = x.instance(0);
        int b = x.instance(1);
        c.due("an INSTANCE for a ROW", x.give(b, 0, a), 1);
        c.due("a new ROW", x.count(2), 3);
        c.due("given", x.part(b, 0), 2);
        c.due("of one", x.told(2, 2), 1);
        c.due("of the KIND", x.told(2, 1), 10);
        c.due("a ROW", x.told(2, 0), 1);
        c.due("DONE", x.told(2, 3), 1);
        c.due("with the INSTANCE", x.part(2, 0), a);
        c.due("that is DONE", x.told(a, 3), 1);
        c.due("a ROW of another KIND", x.give(b, 1, x.row(1)), FAILED);
        c.due("CAST", x.cause(), 2);
        c.due("a VALUE of another KIND", x.give(b, 1, x.value(1, 1)), FAILED);
        c.due("no ROW was made by that", x.count(2), 5);
        int empty = x.row(0);
        c.due("an empty ROW", x.give(b, 1, empty), 1);
        c.due("itself is given", x.part(b, 1), empty);
        c.due("DONE", x.told(empty, 3), 1);
    }

    private static void giveState() {
        MarkRules x = new MarkRules();
        x.place(0, NONE);
        x.mark(1, 0, false);
        x.mark(1, 0, false);
        x.element(0, 0, 0, false);
        x.element(1, 0, 10, false);
        x.element(1, 1, 10, false);
        x.element(1, 2, 0, true);
        x.fallback(0, 0, x.value(0, 9));
        int a = x.instance(0);
        int b = x.instance(1);
        c.due("they are one", x.give(b, 0, b), STATE);
        c.due("given", x.give(b, 0, a), 1);
        c.due("the ELEMENT was given one", x.give(b, 0, x.instance(0)), STATE);
        c.due("the VALUE is DONE", x.give(b, 1, a), STATE);
        c.due("DONE ahead of CAST", x.give(b, 2, a), STATE);
        c.due("it is DONE", x.give(a, 0, 0), STATE);
        c.due("STATE ahead of NULL", x.give(a, 0, NONE), STATE);
        c.due("BAD ahead of STATE", x.give(a, 1, 0), BAD);
        int other = x.instance(0);
        c.due("a DEFAULT is not given", x.give(other, 0, x.value(0, 8)), 1);
        int standing = x.instance(0);
        x.put(0, standing);
        c.due("it was put", x.give(standing, 0, 0), STATE);
    }

    private static void giveFull() {
        MarkRules x = new MarkRules();
        x.mark(1, 0, false);
        x.element(0, 0, 0, true);
        x.element(0, 1, 0, false);
        x.element(0, 2, 0, true);
        int a = x.instance(0);
        int word = x.value(1, 1);
        int row = x.row(0);
        for (int v = 3; v < 99; v++) {
            x.value(0, v);
        }
        c.due("the 100th VALUE", x.give(a, 0, 5), 1);
        c.due("count", x.count(2), 100);
        c.due("the 101st", x.give(a, 2, 5), FULL);
        c.due("nothing was given", x.told(a, 2), 1);
        c.due("STATE ahead of FULL", x.give(a, 0, 5), STATE);
        c.due("CAST needs no ROW", x.give(a, 2, word), FAILED);
        c.due("nor NULL", x.give(a, 2, NONE), FAILED);
        c.due("nor one that is no ROW", x.give(a, 1, 5), 1);
        c.due("nor a ROW itself", x.give(a, 2, row), 1);
    }

    private static void cause() {
        MarkRules x = new MarkRules();
        x.mark(1, 0, false);
        x.mark(1, 0, false);
        x.element(0, 0, 0, false);
        x.element(1, 0, 0, false);
        int number = x.value(0, 0);
        int row = x.row(1);
        int a = x.instance(0);
        c.due("none", x.cause(), 0);
        x.push(row, number);
        c.due("STORE", x.cause(), 3);
        x.push(row, 50);
        c.due("BAD leaves it", x.cause(), 3);
        x.push(row, row);
        c.due("STATE leaves it", x.cause(), 3);
        x.count(0);
        x.put(0, 0);
        x.value(9, 9);
        c.due("other calls leave it", x.cause(), 3);
        x.give(a, 0, NONE);
        c.due("NULL", x.cause(), 1);
        x.give(a, 0, row);
        c.due("CAST", x.cause(), 2);
        x.give(a, 0, number);
        c.due("give that did not fail", x.cause(), 0);
        x.fallback(1, 0, NONE);
        c.due("NULL of fallback", x.cause(), 1);
        x.fallback(1, 0, number);
        c.due("fallback that did not fail", x.cause(), 0);
        x.push(row, NONE);
        c.due("NULL of push", x.cause(), 1);
        x.push(row, x.value(1, 1));
        c.due("push that did not fail", x.cause(), 0);
        c.due("NULL ever", x.count(11), 3);
        c.due("CAST ever", x.count(12), 1);
        c.due("STORE ever", x.count(13), 1);
    }

    private static void told() {
        MarkRules x = new MarkRules();
        x.mark(1, 0, false);
        x.element(0, 0, 0, false);
        x.element(0, 1, 0, false);
        x.fallback(0, 0, x.value(0, -2));
        int a = x.instance(0);
        c.due("value -1", x.told(-1, 0), BAD);
        c.due("value 2", x.told(2, 0), BAD);
        c.due("what -1", x.told(0, -1), BAD);
        c.due("what 5", x.told(0, 5), BAD);
        c.due("sort", x.told(0, 0), 0);
        c.due("KIND", x.told(0, 1), 0);
        c.due("number", x.told(0, 2), -2);
        c.due("a DEFAULT that is no ROW is not DONE", x.told(0, 3), 0);
        c.due("WHOLE", x.told(0, 4), 1);
        c.due("a DEFAULT does not count as given", x.told(a, 2), 0);
        x.give(a, 1, 0);
        c.due("given", x.told(a, 2), 1);
        x.give(a, 0, 0);
        c.due("given", x.told(a, 2), 2);
        c.due("DONE is none by being given to", x.told(a, 3), 0);
        x.place(0, NONE);
        x.put(0, a);
        c.due("DONE by being put", x.told(a, 3), 1);
    }

    private static void whole() {
        MarkRules x = new MarkRules();
        x.mark(1, 0, false);
        x.mark(1, 0, false);
        x.mark(1, 0, false);
        x.element(0, 0, 0, false);
        x.element(1, 0, 10, false);
        x.element(2, 0, 11, true);
        x.element(2, 1, 0, false);
        x.fallback(2, 1, x.value(0, 0));
        int hollow = x.instance(0);
        int full = x.instance(0);
        c.due("without VALUE", x.told(full, 4), 0);
        x.give(full, 0, 0);
        c.due("with it", x.told(full, 4), 1);
        int b = x.instance(1);
        int b2 = x.instance(1);
        x.give(b, 0, hollow);
        x.give(b2, 0, full);
        c.due("one level above", x.told(b, 4), 0);
        c.due("one level above", x.told(b2, 4), 1);
        int row = x.row(11);
        c.due("an empty ROW", x.told(row, 4), 1);
        x.push(row, b2);
        c.due("a ROW of WHOLE ones", x.told(row, 4), 1);
        x.push(row, b);
        c.due("a ROW with one that is not", x.told(row, 4), 0);
        int top = x.instance(2);
        c.due("an ELEMENT is missing", x.told(top, 4), 0);
        x.give(top, 0, row);
        c.due("three levels above", x.told(top, 4), 0);
        int top2 = x.instance(2);
        x.give(top2, 0, x.row(11));
        c.due("by DEFAULT", x.told(top2, 4), 1);
    }

    private static void part() {
        MarkRules x = new MarkRules();
        x.mark(1, 0, false);
        x.element(0, 7, 0, false);
        x.element(0, 2, 0, false);
        x.element(0, 0, 0, false);
        int number = x.value(0, 70);
        x.fallback(0, 2, number);
        int given = x.value(0, 20);
        int a = x.instance(0);
        int row = x.row(0);
        c.due("no ROW, INSTANCE", x.part(number, 0), BAD);
        c.due("value -1", x.part(-1, 0), BAD);
        c.due("value 4", x.part(4, 0), BAD);
        c.due("not given", x.part(a, 7), NONE);
        c.due("DEFAULT", x.part(a, 2), number);
        x.give(a, 2, given);
        x.give(a, 7, number);
        c.due("given, not the DEFAULT", x.part(a, 2), given);
        c.due("given", x.part(a, 7), number);
        c.due("neither", x.part(a, 0), NONE);
        c.due("no such NAME", x.part(a, 1), NONE);
        c.due("name -1", x.part(a, -1), NONE);
        c.due("name 10", x.part(a, 10), NONE);
        c.due("an empty ROW", x.part(row, 0), NONE);
        x.push(row, given);
        x.push(row, number);
        c.due("VALUE 0", x.part(row, 0), given);
        c.due("VALUE 1", x.part(row, 1), number);
        c.due("VALUE 2", x.part(row, 2), NONE);
        c.due("VALUE -1", x.part(row, -1), NONE);
        c.due("VALUE MAX", x.part(row, MAX), NONE);
        c.due("VALUE MIN", x.part(row, MIN), NONE);
    }

    private static void equalSimple() {
        MarkRules x = new MarkRules();
        x.place(0, NONE);
        x.value(0, 0);
        x.value(1, 0);
        x.value(2, 0);
        x.value(3, 0);
        x.value(0, 0);
        x.value(0, 1);
        for (int a = 0; a <= 3; a++) {
            for (int b = 0; b <= 3; b++) {
                c.due("KINDS " + a + ", " + b, x.equal(a, b), a == b ? 1 : 0);
            }
        }
        c.due("the same number", x.equal(0, 4), 1);
        c.due("another number", x.equal(0, 5), 0);
        c.due("a -1", x.equal(-1, 0), BAD);
        c.due("b -1", x.equal(0, -1), BAD);
        c.due("both -1", x.equal(-1, -1), BAD);
        c.due("b 6", x.equal(0, 6), BAD);
    }

    private static int rowOf(MarkRules x, int kind, int... values) {
        int row = x.row(kind);
        for (int v : values) {
            x.push(row, v);
        }
        return row;
    }

    private static void equalRows() {
        MarkRules x = new MarkRules();
        int one = x.value(0, 1);
        int two = x.value(0, 2);
        int anotherOne = x.value(0, 1);
        int zero = x.value(0, 0);
        int a = rowOf(x, 0, one, two);
        c.due("VALUES EQUAL", x.equal(a, rowOf(x, 0, anotherOne, two)), 1);
        c.due("another order", x.equal(a, rowOf(x, 0, two, one)), 0);
        c.due("shorter", x.equal(a, rowOf(x, 0, one)), 0);
        c.due("longer", x.equal(a, rowOf(x, 0, one, two, two)), 0);
        c.due("the last differs", x.equal(a, rowOf(x, 0, one, one)), 0);
        c.due("empty, of one KIND", x.equal(x.row(0), x.row(0)), 1);
        c.due("empty, of two KINDS", x.equal(x.row(0), x.row(1)), 0);
        c.due("a ROW and a NUMBER", x.equal(x.row(0), zero), 0);
        c.due("itself", x.equal(a, a), 1);
    }

    private static void equalInstances() {
        MarkRules x = new MarkRules();
        x.mark(1, 0, false);
        x.mark(1, 0, false);
        x.element(0, 0, 0, false);
        x.element(0, 1, 1, false);
        x.element(1, 0, 10, true);
        x.fallback(0, 0, x.value(0, 5));
        int five = x.value(0, 5);
        int six = x.value(0, 6);
        int word = x.value(1, 5);
        int byDefault = x.instance(0);
        int given = x.instance(0);
        int other = x.instance(0);
        x.give(given, 0, five);
        x.give(other, 0, six);
        c.due("DEFAULT and given", x.equal(byDefault, given), 1);
        c.due("another VALUE", x.equal(byDefault, other), 0);
        x.give(given, 1, word);
        c.due("one has none", x.equal(byDefault, given), 0);
        c.due("one has none, the other way", x.equal(given, byDefault), 0);
        int a = x.instance(1);
        int b = x.instance(1);
        c.due("both have none", x.equal(a, b), 1);
        c.due("of two MARKS", x.equal(a, x.instance(0)), 0);
        x.give(a, 0, given);
        int twin = x.instance(0);
        x.give(twin, 1, word);
        x.give(b, 0, rowOf(x, 10, twin));
        c.due("by their ROWS", x.equal(a, b), 1);
        int d = x.instance(1);
        x.give(d, 0, other);
        c.due("by their ROWS, not", x.equal(a, d), 0);
        c.due("an INSTANCE and a ROW of it", x.equal(x.instance(0), x.row(10)), 0);
    }

    /** What lies behind the last ELEMENT is another VALUE's. */
    private static void equalFiveElements() {
        MarkRules x = new MarkRules();
        x.mark(1, 0, false);
        for (int name = 0; name < 5; name++) {
            x.element(0, name, 0, false);
        }
        int number = x.value(0, 1);
        int a = x.instance(0);
        int b = x.instance(0);
        int last = x.instance(0);
        x.give(last, 0, number);
        c.due("both have none", x.equal(a, b), 1);
        c.due("the first differs", x.equal(a, last), 0);
        x.give(b, 4, number);
        c.due("the last differs", x.equal(a, b), 0);
        x.give(a, 4, x.value(0, 1));
        c.due("the last is EQUAL", x.equal(a, b), 1);
    }
}
