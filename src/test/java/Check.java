/** Counts and prints the answers that are not as due, for the tests of the project. */
final class Check {
    private int wrong = 0;
    private int asked = 0;

    void due(String call, long got, long want) {
        asked++;
        if (got != want) {
            wrong++;
            System.out.println(call + " answered " + got + ", due is " + want);
        }
    }

    void holds(String rule, boolean kept) {
        asked++;
        if (!kept) {
            wrong++;
            System.out.println("not kept: " + rule);
        }
    }

    boolean clean() {
        return wrong == 0;
    }

    void end() {
        System.out.println(asked + " asked, " + wrong + " wrong");
        if (wrong != 0) {
            System.exit(1);
        }
    }

    static PassedDuties with(String... texts) {
        PassedDuties x = new PassedDuties();
        for (String text : texts) {
            read(x, text);
        }
        return x;
    }

    static int read(PassedDuties x, String text) {
        write(x, text);
        return x.terms();
    }

    static void write(PassedDuties x, String text) {
        for (char letter : text.toCharArray()) {
            x.letter(letter);
        }
    }
}
