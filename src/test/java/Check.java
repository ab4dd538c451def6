/** Counts the answers of one test that are not the ones that are due, and prints them. */
final class Check {
    private final String test;
    private String promise = "";
    private int wrong = 0;

    Check(String test) {
        this.test = test;
    }

    void promise(int number) {
        promise = "promise " + number;
    }

    void due(String what, int got, int want) {
        if (got != want) {
            wrong++;
            System.out.println(test + ", " + promise + ": " + what + " answered " + got + ", due is " + want);
        }
    }

    void text(String what, MarkRules x, int value, String want) {
        due(what + ": length", x.written(value), want.length());
        for (int i = 0; i < want.length(); i++) {
            due(what + ": letter " + i, x.letter(i), want.charAt(i));
        }
        due(what + ": behind the last letter", x.letter(want.length()), MarkRules.NONE);
    }

    void end() {
        if (wrong != 0) {
            System.out.println(test + ": " + wrong + " answers are not as due");
            System.exit(1);
        }
    }
}
