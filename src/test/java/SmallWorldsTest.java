/**
 * All JOINS that three PARTS can have (5 to the power of 6), under TERMS that change from one to the
 * next: what the program tells of each, held against the model. No draw can miss one of them.
 */
public final class SmallWorldsTest {
    private static final int PARTS = 3;
    private static final int KINDS_AND_NONE = 5;
    private static final int WORLDS = 15625;
    private static final String[] TEXTS = {
        "q", "p", "p+", "p*", "P", "P+", "P*", "pP", "p+P*", "p*P", "p*P*", "p+P+", "q*P"
    };
    private static final Check check = new Check();

    private final int number;
    private final PassedDuties real = new PassedDuties();
    private final Model model = new Model();

    private SmallWorldsTest(int number) {
        this.number = number;
    }

    public static void main(String[] args) {
        for (int number = 0; number < WORLDS && check.clean(); number++) {
            SmallWorldsTest world = new SmallWorldsTest(number);
            world.tellParts();
            world.tellJoins();
            world.ask();
        }
        check.end();
    }

    /** Of any two PARTS each text of the one meets each of the other, as the third is their sum. */
    private void tellParts() {
        int first = number % TEXTS.length;
        int second = number / TEXTS.length % TEXTS.length;
        for (int place : new int[] {first, second, (first + second) % TEXTS.length}) {
            for (char letter : TEXTS[place].toCharArray()) {
                real.letter(letter);
                model.letter(letter);
            }
            int terms = model.terms();
            due("terms", real.terms(), terms);
            due("part", real.part(terms), model.part(terms));
        }
    }

    private void tellJoins() {
        int left = number;
        for (int user = 0; user < PARTS; user++) {
            for (int used = 0; used < PARTS; used++) {
                if (user != used) {
                    int kind = left % KINDS_AND_NONE - 1;
                    left /= KINDS_AND_NONE;
                    due("join", real.join(user, used, kind), model.join(user, used, kind));
                }
            }
        }
    }

    private void ask() {
        due("digest", real.digest(), model.digest());
        for (int part = 0; part < PARTS; part++) {
            for (int item = 0; item < 12; item += 6) {
                for (int place = 0; place <= PARTS; place++) {
                    String call = "way " + part + " " + item + " " + place;
                    due(call, real.way(part, item, place), model.way(part, item, place));
                }
            }
        }
    }

    private void due(String call, long got, long want) {
        check.due("world " + number + ": " + call, got, want);
    }
}
