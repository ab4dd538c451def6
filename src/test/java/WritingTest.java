/** Promises 17 and 18: written and letter. */
public final class WritingTest {
    private static final int NONE = MarkRules.NONE, BAD = MarkRules.BAD, FULL = MarkRules.FULL;
    private static final Check c = new Check("WritingTest");

    public static void main(String[] args) {
        c.promise(17);
        simple();
        rows();
        instances();
        edge(0);
        edge(1);
        farTooLong();
        c.promise(18);
        letters();
        c.end();
    }

    private static void simple() {
        MarkRules x = new MarkRules();
        for (int p = 0; p < 12; p++) {
            x.place(1, NONE);
        }
        int[] numbers = {0, 7, -7, 10, -10, 99, 100, 1000000000, Integer.MAX_VALUE, Integer.MIN_VALUE, -1};
        for (int n : numbers) {
            c.text("NUMBER " + n, x, x.value(0, n), Integer.toString(n));
        }
        c.text("WORD", x, x.value(1, 0), "w0");
        c.text("WORD", x, x.value(1, 99), "w99");
        c.text("CHOICE", x, x.value(2, 4), "c4");
        c.text("TYPE", x, x.value(3, 11), "t11");
        c.due("value -1", x.written(-1), BAD);
        c.due("no such VALUE", x.written(x.count(2)), BAD);
        c.due("BAD leaves the text", x.letter(0), 't');
    }

    private static void rows() {
        MarkRules x = new MarkRules();
        int row = x.row(0);
        c.text("an empty ROW", x, row, "{}");
        x.push(row, x.value(0, 5));
        c.text("of one", x, row, "{5}");
        x.push(row, x.value(0, -60));
        x.push(row, x.value(0, 0));
        c.text("of three", x, row, "{5,-60,0}");
    }

    private static void instances() {
        MarkRules x = new MarkRules();
        for (int m = 0; m < 12; m++) {
            x.mark(1, 0, false);
        }
        x.element(11, 9, 0, false);
        x.element(11, 3, 1, true);
        x.element(11, 5, 2, false);
        x.element(10, 0, 21, true);
        x.fallback(11, 5, x.value(2, 1));
        int a = x.instance(11);
        c.text("only a DEFAULT", x, a, "@11(5=c1)");
        x.give(a, 5, x.value(2, 2));
        x.give(a, 3, x.value(1, 8));
        c.text("in the order of ELEMENTS, not of giving", x, a, "@11(3={w8},5=c2)");
        x.give(a, 9, x.value(0, -1));
        c.text("all", x, a, "@11(9=-1,3={w8},5=c2)");
        int b = x.instance(10);
        c.text("none", x, b, "@10()");
        int row = x.row(21);
        x.push(row, a);
        x.push(row, x.instance(11));
        x.give(b, 0, row);
        c.text("one in the other", x, b, "@10(0={@11(9=-1,3={w8},5=c2),@11(5=c1)})");
        c.text("no ELEMENTS", x, x.instance(0), "@0()");
    }

    private static int rowOfFour(MarkRules x, int kind, int value) {
        int row = x.row(kind);
        for (int n = 0; n < 4; n++) {
            x.push(row, value);
        }
        return row;
    }

    /** MARK 0, all by DEFAULT, has 263 bytes; MARK 1 holds seven of these, and ROWS that fill up to 2000 + more. */
    private static void edge(int more) {
        MarkRules x = new MarkRules();
        x.mark(1, 0, false);
        x.mark(1, 0, false);
        for (int name = 0; name < 5; name++) {
            x.element(0, name, 0, true);
            x.fallback(0, name, rowOfFour(x, 0, x.value(0, Integer.MIN_VALUE)));
            x.element(1, name, name < 2 ? 10 : 0, true);
        }
        int small = x.value(0, 3);
        c.due("one of MARK 0", x.written(x.instance(0)), 263);
        int top = x.instance(1);
        for (int name = 0; name < 2; name++) {
            int row = x.row(10);
            for (int n = 0; n < 4 - name; n++) {
                x.push(row, x.instance(0));
            }
            x.give(top, name, row);
        }
        int before = "@1(0={,,,},1={,,})".length() + 7 * 263;
        c.due("seven of these", x.written(top), before);
        int left = 2000 + more - before - ",2={},3={},4={}".length();
        for (int name = 2; name < 5; name++) {
            int bytes = Math.min(left, 47);
            x.give(top, name, rowOfBytes(x, bytes));
            left -= bytes;
        }
        c.due("a text before", x.written(small), 1);
        c.due("2000 + " + more, x.written(top), more == 0 ? 2000 : FULL);
        c.due("the text", x.letter(0), more == 0 ? '@' : '3');
        c.due("its second", x.letter(1), more == 0 ? '1' : NONE);
        c.due("its end", x.letter(1999), more == 0 ? ')' : NONE);
        c.due("behind its end", x.letter(2000), NONE);
    }

    /** A ROW of NUMBERS with so many bytes between its braces, 47 at most. */
    private static int rowOfBytes(MarkRules x, int bytes) {
        int row = x.row(0);
        int left = bytes;
        while (left > 0) {
            int length = left == 12 ? 10 : Math.min(left, 11);
            x.push(row, x.value(0, length == 11 ? Integer.MIN_VALUE : (int) Math.pow(10, length - 1)));
            left -= length + 1;
        }
        return row;
    }

    /** All by DEFAULT, three levels deep: a text of some hundred thousand bytes, were it WRITTEN. */
    private static void farTooLong() {
        MarkRules x = new MarkRules();
        for (int m = 0; m < 3; m++) {
            x.mark(1, 0, false);
        }
        for (int m = 0; m < 3; m++) {
            for (int name = 0; name < 5; name++) {
                x.element(m, name, m == 0 ? 0 : 9 + m, true);
            }
        }
        int number = x.value(0, Integer.MIN_VALUE);
        for (int m = 0; m < 3; m++) {
            for (int name = 0; name < 5; name++) {
                int row = x.row(m == 0 ? 0 : 9 + m);
                for (int n = 0; n < 4; n++) {
                    x.push(row, m == 0 ? number : x.instance(m - 1));
                }
                c.due("DEFAULT", x.fallback(m, name, row), 1);
            }
        }
        x.written(number);
        int top = x.instance(2);
        c.due("far too long", x.written(top), FULL);
        c.due("what was WRITTEN before", x.letter(10), '8');
        c.due("WHOLE", x.told(top, 4), 1);
        c.due("EQUAL", x.equal(top, x.instance(2)), 1);
    }

    private static void letters() {
        MarkRules x = new MarkRules();
        c.due("nothing was WRITTEN", x.letter(0), NONE);
        int longer = x.value(0, -123);
        int shorter = x.value(1, 4);
        x.written(longer);
        c.due("letter -1", x.letter(-1), NONE);
        c.due("letter MIN", x.letter(Integer.MIN_VALUE), NONE);
        c.due("letter MAX", x.letter(Integer.MAX_VALUE), NONE);
        c.due("letter 0", x.letter(0), '-');
        c.due("letter 3", x.letter(3), '3');
        c.due("letter 4", x.letter(4), NONE);
        x.written(shorter);
        c.due("the latest", x.letter(1), '4');
        c.due("nothing of the one before", x.letter(2), NONE);
    }
}
