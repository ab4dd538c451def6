/** Promises 12 and 22: put and stands. */
public final class PuttingTest {
    private static final int NONE = MarkRules.NONE, BAD = MarkRules.BAD, FULL = MarkRules.FULL;
    private static final int STATE = MarkRules.STATE;
    private static final Check c = new Check("PuttingTest");

    public static void main(String[] args) {
        c.promise(12);
        targets();
        wrongNumbers();
        wholeRule();
        withoutContainer();
        withContainer();
        containerInItself();
        rulesInOrder();
        c.promise(22);
        stands();
        c.end();
    }

    /** PLACES 0 .. 5, each of the kind of its number. */
    private static void sixPlaces(MarkRules x) {
        x.place(0, NONE);
        x.place(1, NONE);
        x.place(2, 0);
        x.place(3, 0);
        x.place(4, 0);
        x.place(5, 3);
    }

    private static void targets() {
        boolean[][] fits = {
            {true, true, false, false, false, false},
            {false, false, true, false, false, false},
            {false, false, false, true, true, false},
            {false, false, false, false, false, true},
            {false, false, true, true, false, true},
        };
        for (int bits = 0; bits < 32; bits++) {
            MarkRules x = new MarkRules();
            sixPlaces(x);
            x.mark(bits, 0, false);
            for (int place = 0; place < 6; place++) {
                boolean may = false;
                for (int bit = 0; bit < 5; bit++) {
                    may = may || (bits >> bit & 1) == 1 && fits[bit][place];
                }
                c.due("TARGETS " + bits + " at " + place, x.put(place, x.instance(0)), may ? 1 : -11);
            }
        }
    }

    private static void wrongNumbers() {
        MarkRules x = new MarkRules();
        x.mark(31, 0, false);
        int a = x.instance(0);
        c.due("no PLACE", x.put(0, a), BAD);
        sixPlaces(x);
        c.due("place -1", x.put(-1, a), BAD);
        c.due("place 6", x.put(6, a), BAD);
        c.due("instance -1", x.put(0, -1), BAD);
        c.due("instance 1", x.put(0, 1), BAD);
        c.due("a ROW", x.put(0, x.row(10)), BAD);
        c.due("a NUMBER", x.put(0, x.value(0, 0)), BAD);
        c.due("put", x.put(0, a), 1);
        c.due("it is DONE", x.put(1, a), STATE);
        c.due("BAD ahead of STATE", x.put(6, a), BAD);
        int inRow = x.instance(0);
        x.push(x.row(10), inRow);
        c.due("one in a ROW is DONE", x.put(1, inRow), STATE);
        c.due("INSTANCES put", x.count(3), 1);
    }

    private static void wholeRule() {
        MarkRules x = new MarkRules();
        sixPlaces(x);
        x.mark(1, 0, false);
        x.mark(1, 0, false);
        x.element(0, 0, 0, false);
        x.element(1, 0, 10, true);
        int a = x.instance(0);
        c.due("not WHOLE", x.put(0, a), -12);
        c.due("it is not DONE by that", x.told(a, 3), 0);
        int b = x.instance(1);
        x.give(b, 0, a);
        c.due("with one that is not WHOLE", x.put(0, b), -12);
        int d = x.instance(0);
        x.give(d, 0, x.value(0, 1));
        c.due("WHOLE", x.put(0, d), 1);
    }

    private static void withoutContainer() {
        MarkRules x = new MarkRules();
        sixPlaces(x);
        x.mark(1, 2, false);
        c.due("the first", x.put(0, x.instance(0)), 1);
        int second = x.instance(0);
        c.due("the second", x.put(0, second), -13);
        c.due("at another PLACE", x.put(1, second), 1);
    }

    /** MARK 0 with CONTAINER 1. */
    private static MarkRules contained() {
        MarkRules x = new MarkRules();
        sixPlaces(x);
        x.mark(31, 2, false);
        x.mark(31, 2, false);
        x.element(1, 0, 10, true);
        x.fallback(1, 0, x.row(10));
        c.due("container", x.container(0, 1), 1);
        return x;
    }

    private static void withContainer() {
        MarkRules x = contained();
        for (int n = 1; n <= 4; n++) {
            c.due("one of several", x.put(0, x.instance(0)), n);
        }
        int fifth = x.instance(0);
        c.due("the 5th", x.put(0, fifth), FULL);
        c.due("nothing changes", x.told(fifth, 3), 0);
        c.due("nothing stands more", x.stands(0), 4);
        c.due("at another PLACE", x.put(1, fifth), 1);
        int box = x.instance(1);
        c.due("CONTAINER beside several", x.put(0, box), -15);
        c.due("CONTAINER beside one", x.put(1, box), -15);
        c.due("CONTAINER alone", x.put(2, box), 1);
        c.due("one beside its CONTAINER", x.put(2, x.instance(0)), -14);
        c.due("two CONTAINERS", x.put(2, x.instance(1)), -13);
    }

    private static void containerInItself() {
        MarkRules x = new MarkRules();
        sixPlaces(x);
        for (int m = 0; m < 3; m++) {
            x.mark(31, 2, false);
        }
        x.element(1, 0, 10, true);
        x.fallback(1, 0, x.row(10));
        x.element(2, 0, 11, true);
        c.due("2 holds 1", x.container(1, 2), 1);
        c.due("1 holds 0", x.container(0, 1), 1);
        c.due("1", x.put(0, x.instance(1)), 1);
        c.due("1 again", x.put(0, x.instance(1)), 2);
        c.due("0 beside 1", x.put(0, x.instance(0)), -14);
        int top = x.instance(2);
        x.give(top, 0, x.row(11));
        c.due("2 beside 1", x.put(0, top), -15);
        c.due("0", x.put(1, x.instance(0)), 1);
        c.due("1 beside 0", x.put(1, x.instance(1)), -15);
        c.due("2 beside 0: not its CONTAINER", x.put(1, top), 1);
        c.due("1 beside 2 and 0: the first RULE", x.put(1, x.instance(1)), -14);
    }

    private static void rulesInOrder() {
        MarkRules x = new MarkRules();
        sixPlaces(x);
        x.mark(1, 0, false);
        x.element(0, 0, 0, false);
        int hollow = x.instance(0);
        c.due("1 ahead of 2", x.put(2, hollow), -11);
        int a = x.instance(0);
        x.give(a, 0, x.value(0, 0));
        c.due("put", x.put(0, a), 1);
        c.due("2 ahead of 3", x.put(0, hollow), -12);
        c.due("STATE ahead of the RULES", x.put(0, a), STATE);
        MarkRules y = new MarkRules();
        sixPlaces(y);
        y.mark(31, 0, false);
        y.mark(31, 0, false);
        y.element(0, 5, 0, false);
        y.element(1, 0, 10, true);
        y.container(0, 1);
        int box = y.instance(1);
        y.give(box, 0, y.row(10));
        y.put(0, box);
        c.due("2 ahead of 4", y.put(0, y.instance(0)), -12);
        int number = y.value(0, 0);
        for (int n = 0; n < 4; n++) {
            int one = y.instance(0);
            y.give(one, 5, number);
            y.put(1, one);
        }
        c.due("2 ahead of FULL", y.put(1, y.instance(0)), -12);
        c.due("2 ahead of 5", y.put(1, y.instance(1)), -12);
    }

    private static void stands() {
        MarkRules x = contained();
        x.mark(31, 0, false);
        c.due("place -1", x.stands(-1), BAD);
        c.due("place 6", x.stands(6), BAD);
        c.due("none", x.stands(0), 0);
        x.put(0, x.instance(0));
        x.put(0, x.instance(0));
        x.put(0, x.instance(2));
        x.put(1, x.instance(2));
        c.due("of any KEEP", x.stands(0), 3);
        c.due("elsewhere", x.stands(1), 1);
        c.due("one refused does not stand", x.put(0, x.instance(2)), -13);
        c.due("as before", x.stands(0), 3);
        c.due("INSTANCES put", x.count(3), 4);
    }
}
