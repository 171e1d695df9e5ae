import java.math.BigInteger;
import java.util.function.Consumer;
import java.util.function.ToLongFunction;

/** The boundary cases of promises 16 to 20 and of what the document says of CLASHES. */
public final class ClashEdgesTest {
    private static final int NONE = -1, UNKNOWN = -1001, OUTSIDE = -1002;
    private static final int LEAST = Integer.MIN_VALUE, MOST = Integer.MAX_VALUE;
    private static final String LETTERS = "pqrstuPQRSTU";
    private static final Check check = new Check();

    public static void main(String[] args) {
        noClashHasNoPlace();
        eachClashHasAPlace();
        fortyEightClashesAtMost();
        clashesByPartThenByAct();
        clashesGoWithWhatIsThere();
        causeOfOneToEightParts();
        causeHasThePartItself();
        causeOfFewestAheadOfTheLeastSum();
        causeOfTheLeastSum();
        causeByAWayThatBothShare();
        causeWithAllJoinsBetween();
        causeOfNoClash();
        causeKnowsSixActs();
        causeKnowsThePartsThatAreThere();
        cureOfNone();
        cureOfOneToEightParts();
        cureOfFewestAheadOfTheLeastSum();
        cureOfTheLeastSum();
        cureByOneWithoutAClash();
        cureByOneBetween();
        withoutTheCureAllIsClean();
        countKnowsEightQuestions();
        countOfLetters();
        countOfTermsAndParts();
        countOfJoins();
        countOfClashes();
        countHowOftenOneLeft();
        digestOfANewObject();
        digestOfLettersAlone();
        digestOfTermsAlone();
        digestOfPartsWithGaps();
        digestOfAFullObject();
        digestBehindChanges();
        digestWraps();
        check.end();
    }

    private static void due(String call, long got, long want) {
        check.due(call, got, want);
    }

    /** A PART under each of the texts, in their order, and no JOINS. */
    private static PassedDuties partsUnder(String... texts) {
        PassedDuties x = new PassedDuties();
        for (String text : texts) {
            x.part(Check.read(x, text));
        }
        return x;
    }

    // ---- promise 16

    private static void noClashHasNoPlace() {
        PassedDuties x = new PassedDuties();
        due("16 of a new object", x.clash(0), UNKNOWN);
        PassedDuties y = partsUnder("p", "P", "qR");
        for (int place : new int[] {LEAST, -1, 0, 1, MOST}) {
            due("16 of clean parts", y.clash(place), UNKNOWN);
        }
        y.join(0, 1, 1);
        due("16 near does not come beside", y.clash(0), UNKNOWN);
        y.join(0, 1, 0);
        due("16 it comes by the whole", y.clash(0), 0);
    }

    private static void eachClashHasAPlace() {
        PassedDuties x = partsUnder("p", "uU", "qtQT");
        int[] want = {11, 13, 16};
        due("16 below the first", x.clash(-1), UNKNOWN);
        for (int place = 0; place < 3; place++) {
            due("16 place " + place, x.clash(place), want[place]);
        }
        due("16 behind the last", x.clash(3), UNKNOWN);
        for (int place : new int[] {LEAST, -48, -2, 4, 47, 48, 64, MOST}) {
            due("16 place " + place, x.clash(place), UNKNOWN);
        }
    }

    private static void fortyEightClashesAtMost() {
        PassedDuties x = Check.with(LETTERS);
        for (int part = 0; part < 8; part++) {
            due("16 behind the last of " + part + " parts", x.clash(6 * part), UNKNOWN);
            x.part(0);
            due("16 the last of one more", x.clash(6 * part + 5), 6 * part + 5);
        }
        for (int place = 0; place < 48; place++) {
            due("16 place " + place, x.clash(place), place);
        }
        due("16 place 48", x.clash(48), UNKNOWN);
    }

    private static void clashesByPartThenByAct() {
        PassedDuties x = partsUnder("uU", "q", "pPqQ", "r", "sS");
        x.leave(1);
        int[] want = {5, 12, 13, 27};
        for (int place = 0; place < 4; place++) {
            due("16 with a gap, place " + place, x.clash(place), want[place]);
        }
        due("16 with a gap, behind", x.clash(4), UNKNOWN);
    }

    private static void clashesGoWithWhatIsThere() {
        PassedDuties x = partsUnder("p", "P*", "qQ");
        x.join(0, 1, 2);
        due("16 by the join", x.clash(0), 0);
        due("16 of its own", x.clash(1), 13);
        x.leave(1);
        due("16 when the used one left", x.clash(0), 13);
        due("16 one less", x.clash(1), UNKNOWN);
        x.give(2, 0);
        due("16 under other terms", x.clash(0), UNKNOWN);
    }

    // ---- promise 17

    private static void causeOfOneToEightParts() {
        for (int last = 0; last < 8; last++) {
            PassedDuties up = Check.with("p", "q", "P*", "pP*");
            for (int part = 0; part < 8; part++) {
                int between = part == 0 ? 0 : 1;
                up.part(part != last ? between : last == 0 ? 3 : 2);
            }
            for (int part = 0; part < 7; part++) {
                up.join(part, part + 1, 2);
            }
            due("17 cause of " + (last + 1), up.cause(0, 0), (2 << last) - 1);
        }
    }

    private static void causeHasThePartItself() {
        PassedDuties x = partsUnder("q", "pP*", "p*");
        x.join(0, 1, 0);
        due("17 the used one alone is not enough", x.cause(0, 0), 3);
        due("17 but for its own clash", x.cause(1, 0), 2);
        x.join(0, 2, 0);
        due("17 a second way of the duty", x.cause(0, 0), 3);
        x.join(0, 1, 1);
        due("17 the bar by one, the duty by the other", x.cause(0, 0), 7);
    }

    private static void causeOfFewestAheadOfTheLeastSum() {
        PassedDuties x = partsUnder("P*", "q", "r", "p", "s", "t", "u", "P+");
        x.join(3, 2, 0);
        x.join(2, 1, 0);
        x.join(1, 0, 0);
        due("17 by four", x.cause(3, 0), 15);
        x.join(3, 7, 1);
        due("17 by two of a greater sum", x.cause(3, 0), 128 + 8);
        x.join(2, 0, 0);
        due("17 two are fewer than three", x.cause(3, 0), 128 + 8);
        x.join(3, 7, 2);
        due("17 three are fewer than four", x.cause(3, 0), 8 + 4 + 1);
    }

    private static void causeOfTheLeastSum() {
        PassedDuties x = Check.with("p", "P*");
        for (int part = 0; part < 8; part++) {
            x.part(part == 4 ? 0 : 1);
        }
        for (int used = 7; used >= 0; used--) {
            if (used != 4) {
                x.join(4, used, 0);
                due("17 the least that is used", x.cause(4, 0), 16 + (1 << used));
            }
        }
        for (int used = 0; used < 7; used++) {
            x.join(4, used, used == 4 ? NONE : 3);
        }
        due("17 the last that lets it through", x.cause(4, 0), 128 + 16);
    }

    private static void causeByAWayThatBothShare() {
        PassedDuties x = partsUnder("q", "r", "s", "p*", "P*", "t");
        x.join(0, 1, 0);
        x.join(1, 3, 0);
        x.join(0, 2, 0);
        x.join(2, 4, 0);
        due("17 by two ways", x.cause(0, 0), 31);
        x.join(0, 5, 0);
        x.join(5, 3, 0);
        due("17 like many by two ways, of a greater sum", x.cause(0, 0), 31);
        x.join(5, 4, 0);
        due("17 by the one that both share", x.cause(0, 0), 1 + 8 + 16 + 32);
        due("17 though the way is another", x.way(0, 0, 1), 1);
    }

    private static void causeWithAllJoinsBetween() {
        PassedDuties x = partsUnder("p", "q", "P+");
        x.join(0, 1, 0);
        x.join(1, 2, 2);
        due("17 a line stops it", x.cause(0, 0), NONE);
        x.join(1, 2, 1);
        due("17 beside it goes", x.cause(0, 0), 7);
        x.join(0, 2, 3);
        due("17 a tool is no shorter way", x.cause(0, 0), 7);
        x.join(0, 2, 1);
        due("17 a shorter way", x.cause(0, 0), 5);
    }

    private static void causeOfNoClash() {
        PassedDuties x = partsUnder("p", "P", "qQ");
        due("17 a duty alone", x.cause(0, 0), NONE);
        due("17 a bar alone", x.cause(1, 0), NONE);
        due("17 another act", x.cause(2, 0), NONE);
        due("17 a clash", x.cause(2, 1), 4);
        x.join(0, 1, 0);
        due("17 a clash now", x.cause(0, 0), 3);
        due("17 none of the one that is used", x.cause(1, 0), NONE);
        x.join(0, 1, -1);
        due("17 none again", x.cause(0, 0), NONE);
    }

    private static void causeKnowsSixActs() {
        PassedDuties x = partsUnder("pPuU", "q");
        due("17 act -1", x.cause(0, -1), OUTSIDE);
        due("17 act 0", x.cause(0, 0), 1);
        due("17 act 1", x.cause(0, 1), NONE);
        due("17 act 5", x.cause(0, 5), 1);
        due("17 act 6", x.cause(0, 6), OUTSIDE);
        for (int act : new int[] {LEAST, -6, 11, 48, 64, MOST}) {
            due("17 act " + act, x.cause(0, act), OUTSIDE);
            due("17 act of a clean one " + act, x.cause(1, act), OUTSIDE);
        }
    }

    private static void causeKnowsThePartsThatAreThere() {
        PassedDuties x = partsUnder("pP", "pP", "pP");
        x.leave(1);
        for (int part : new int[] {LEAST, -1, 1, 3, 7, 8, MOST}) {
            due("17 part " + part, x.cause(part, 0), UNKNOWN);
            due("17 ahead of outside " + part, x.cause(part, 6), UNKNOWN);
            due("17 ahead of outside below " + part, x.cause(part, -1), UNKNOWN);
        }
        due("17 the first", x.cause(0, 0), 1);
        due("17 the last", x.cause(2, 0), 4);
    }

    // ---- promise 18

    private static void cureOfNone() {
        PassedDuties x = new PassedDuties();
        due("18 of a new object", x.cure(), 0);
        PassedDuties y = partsUnder("p", "P");
        due("18 of clean parts", y.cure(), 0);
        y.join(0, 1, 1);
        due("18 of a bar that does not come", y.cure(), 0);
        y.join(0, 1, 0);
        due("18 of one that does", y.cure(), 1);
        y.join(0, 1, -1);
        due("18 of clean parts again", y.cure(), 0);
    }

    private static void cureOfOneToEightParts() {
        PassedDuties x = Check.with("pP");
        for (int part = 0; part < 8; part++) {
            x.part(0);
            due("18 all that are there", x.cure(), (2 << part) - 1);
        }
        for (int part = 0; part < 8; part++) {
            x.leave(part);
            due("18 all that are left", x.cure(), 255 - (2 << part) + 1);
        }
    }

    private static void cureOfFewestAheadOfTheLeastSum() {
        PassedDuties x = partsUnder("p", "p", "p", "q", "q", "q", "q", "P+");
        x.join(0, 7, 0);
        due("18 the user of one", x.cure(), 1);
        x.join(1, 7, 1);
        due("18 the one that two use", x.cure(), 128);
        x.join(2, 7, 1);
        due("18 the one that three use", x.cure(), 128);
        x.join(1, 7, 2);
        x.join(2, 7, 2);
        due("18 the user of one again", x.cure(), 1);
    }

    private static void cureOfTheLeastSum() {
        PassedDuties x = partsUnder("p", "P", "q", "Q", "r", "R", "s", "S");
        int want = 0;
        for (int user = 6; user >= 0; user -= 2) {
            x.join(user, user + 1, 0);
            want += 1 << user;
            due("18 the lesser one of each two", x.cure(), want);
        }
        PassedDuties y = partsUnder("P", "p", "Q", "q");
        y.join(1, 0, 0);
        y.join(3, 2, 0);
        due("18 the used one, if it is the lesser", y.cure(), 1 + 4);
    }

    private static void cureByOneWithoutAClash() {
        PassedDuties x = partsUnder("p", "q", "p", "P*");
        x.join(0, 1, 0);
        x.join(2, 1, 0);
        x.join(1, 3, 0);
        due("18 the one between, of the lesser sum", x.cure(), 2);
        due("18 which has no clash", x.of(1, 3), 0);
    }

    private static void cureByOneBetween() {
        PassedDuties x = partsUnder("p", "q", "p", "P*", "P*");
        x.join(0, 1, 0);
        x.join(2, 1, 0);
        x.join(1, 3, 0);
        x.join(1, 4, 0);
        due("18 the one by which all comes", x.cure(), 2);
        x.join(0, 4, 0);
        due("18 not all comes by it now", x.cure(), 1 + 2);
        x.join(2, 3, 0);
        due("18 the two that clash", x.cure(), 1 + 4);
    }

    private static void withoutTheCureAllIsClean() {
        PassedDuties x = partsUnder("p", "P*", "qR*", "Q+r", "s", "S*P", "uU", "Up*");
        int[][] joins = {{0, 1, 0}, {2, 3, 1}, {3, 2, 2}, {4, 5, 0}, {7, 5, 0}, {0, 7, 1}, {6, 0, 3}};
        for (int[] join : joins) {
            x.join(join[0], join[1], join[2]);
        }
        int cure = x.cure();
        for (int part = 0; part < 8; part++) {
            if ((cure >> part & 1) == 1) {
                check.holds("18 not clean ahead of the last of the cure", x.count(5) > 0);
                x.leave(part);
            }
        }
        due("18 clean without the cure", x.count(5), 0);
        due("18 no cure of what is clean", x.cure(), 0);
    }

    // ---- promise 19

    private static void countKnowsEightQuestions() {
        PassedDuties x = partsUnder("pP", "q", "r");
        x.join(0, 2, 0);
        x.leave(1);
        x.letter('?');
        int[] want = {OUTSIDE, 1, 3, 2, 5, 1, 1, 1, 1, OUTSIDE};
        for (int what = -1; what <= 8; what++) {
            due("19 count " + what, x.count(what), want[what + 1]);
        }
        due("19 least", x.count(LEAST), OUTSIDE);
        due("19 most", x.count(MOST), OUTSIDE);
    }

    private static void countOfLetters() {
        PassedDuties x = new PassedDuties();
        for (int letters = 0; letters < 24; letters++) {
            due("19 letters", x.count(0), letters);
            x.letter('!');
        }
        due("19 letters", x.count(0), 24);
        x.letter('!');
        due("19 letters, one refused", x.count(0), 24);
        x.terms();
        due("19 letters, not read", x.count(0), 24);
        x.blank();
        due("19 letters, none", x.count(0), 0);
    }

    private static void countOfTermsAndParts() {
        PassedDuties x = new PassedDuties();
        for (int there = 0; there <= 8; there++) {
            due("19 terms", x.count(1), there);
            due("19 parts", x.count(2), there);
            due("19 which", x.count(3), (1 << there) - 1);
            if (there < 8) {
                x.part(Check.read(x, LETTERS.substring(0, there + 1)));
            }
        }
        x.leave(0);
        x.leave(7);
        x.leave(3);
        due("19 terms stay", x.count(1), 8);
        due("19 parts left", x.count(2), 5);
        due("19 which are left", x.count(3), 2 + 4 + 16 + 32 + 64);
    }

    private static void countOfJoins() {
        PassedDuties x = partsUnder("p", "p", "p", "p", "p", "p", "p", "p");
        int joins = 0;
        for (int user = 0; user < 8; user++) {
            for (int used = 0; used < 8; used++) {
                due("19 joins", x.count(4), joins);
                x.join(user, used, (user + used) % 4);
                joins += user == used ? 0 : 1;
            }
        }
        due("19 all joins", x.count(4), 56);
        x.join(0, 7, 0);
        due("19 by another kind", x.count(4), 56);
        x.join(0, 7, -1);
        due("19 one less", x.count(4), 55);
        x.leave(7);
        due("19 without one part", x.count(4), 42);
    }

    private static void countOfClashes() {
        PassedDuties x = Check.with(LETTERS, "p", "P");
        due("19 no clashes", x.count(5), 0);
        due("19 no parts with one", x.count(6), 0);
        for (int part = 0; part < 8; part++) {
            x.part(0);
            due("19 clashes", x.count(5), 6 * part + 6);
            due("19 parts with one", x.count(6), part + 1);
        }
        for (int part = 0; part < 8; part++) {
            x.give(part, 1 + part % 2);
        }
        due("19 clean", x.count(5), 0);
        due("19 parts, clean", x.count(6), 0);
        x.join(7, 6, 0);
        due("19 one clash", x.count(5), 1);
        due("19 one part with one", x.count(6), 1);
        x.give(0, 0);
        due("19 seven clashes", x.count(5), 7);
        due("19 two parts with one", x.count(6), 2);
    }

    private static void countHowOftenOneLeft() {
        PassedDuties x = partsUnder("p", "p");
        due("19 none left", x.count(7), 0);
        x.leave(2);
        x.leave(-1);
        due("19 refused ones do not count", x.count(7), 0);
        x.leave(1);
        due("19 once", x.count(7), 1);
        x.leave(1);
        due("19 it is gone", x.count(7), 1);
        x.part(0);
        due("19 it came again", x.count(7), 1);
        x.leave(1);
        x.leave(0);
        due("19 three times", x.count(7), 3);
    }

    // ---- promise 20

    private static BigInteger sum = BigInteger.ZERO;

    private static void next(long number) {
        sum = sum.multiply(BigInteger.valueOf(31)).add(BigInteger.valueOf(number));
    }

    private static long next(Story story, ToLongFunction<PassedDuties> question) {
        long answer = story.ask(question);
        next(answer);
        return answer;
    }

    /** What digest() has to be, from what the other calls answer; not wrapped. */
    private static BigInteger told(Story story, String letters) {
        sum = BigInteger.valueOf(1697);
        long terms = story.ask(x -> x.count(1));
        for (int number = 0; number < terms; number++) {
            for (int item = 0; item < 12; item++) {
                int a = number;
                int b = item;
                next(story, x -> x.reach(a, b));
            }
        }
        long there = story.ask(x -> x.count(3));
        for (int part = 0; part < 8; part++) {
            if ((there >> part & 1) == 1) {
                part(story, part, there);
            }
        }
        clashes(story);
        next(story, x -> x.cure());
        letters.chars().forEach(code -> next(code));
        for (int what = 0; what < 8; what++) {
            int a = what;
            next(story, x -> x.count(a));
        }
        return sum;
    }

    private static void part(Story story, int part, long there) {
        next(part);
        for (int what = 0; what < 7; what++) {
            int a = what;
            next(story, x -> x.of(part, a));
        }
        for (int item = 0; item < 12; item++) {
            int a = item;
            next(story, x -> x.held(part, a));
        }
        for (int used = 0; used < 8; used++) {
            int a = used;
            if ((there >> used & 1) == 1) {
                next(story, x -> x.kind(part, a));
            }
        }
    }

    private static void clashes(Story story) {
        long clashes = story.ask(x -> x.count(5));
        for (int place = 0; place < clashes; place++) {
            int a = place;
            int clash = (int) next(story, x -> x.clash(a));
            next(story, x -> x.cause(clash / 6, clash % 6));
        }
    }

    private static BigInteger digestIs(String call, String letters, Consumer<PassedDuties> calls) {
        Story story = new Story(calls);
        BigInteger want = told(story, letters);
        PassedDuties x = story.tell();
        due("20 " + call, x.digest(), want.longValue());
        due("20 the same again: " + call, x.digest(), want.longValue());
        return want;
    }

    private static void digestOfANewObject() {
        BigInteger told = digestIs("new", "", x -> { });
        BigInteger want = BigInteger.valueOf(1697).multiply(BigInteger.valueOf(31).pow(9));
        check.holds("20 a cure and eight counts, all 0", told.equals(want));
    }

    private static void digestOfLettersAlone() {
        for (String text : new String[] {" ", "~", "p", "pq", "qp", "p+q+r+s+t+u+P*Q*R*S*T*U*"}) {
            digestIs("letters " + text, text, x -> Check.write(x, text));
        }
        digestIs("letters that were blanked", "", x -> {
            Check.write(x, "pq");
            x.blank();
        });
        PassedDuties one = new PassedDuties();
        PassedDuties other = new PassedDuties();
        Check.write(one, "pq");
        Check.write(other, "qp");
        check.holds("20 letters in their order", one.digest() != other.digest());
    }

    private static void digestOfTermsAlone() {
        digestIs("one", "", x -> Check.read(x, "p+U*"));
        digestIs("eight, and a ninth on the page", "qQ", x -> {
            for (int number = 0; number < 8; number++) {
                Check.read(x, LETTERS.substring(number, number + 3) + "*");
            }
            Check.read(x, "qQ");
        });
    }

    private static void digestOfPartsWithGaps() {
        digestIs("the first alone", "", x -> x.part(Check.read(x, "p")));
        digestIs("gaps", "t", x -> {
            for (String text : new String[] {"p", "P*", "qQ", "r+", "R*", "s", "t", "uU"}) {
                x.part(Check.read(x, text));
            }
            x.join(1, 0, 0);
            x.join(3, 4, 2);
            x.join(4, 3, 1);
            x.join(7, 6, 3);
            x.leave(0);
            x.leave(5);
            x.leave(2);
            x.letter('t');
        });
        digestIs("all left", "", x -> {
            x.part(Check.read(x, "pP"));
            x.part(0);
            x.join(0, 1, 0);
            x.leave(0);
            x.leave(1);
        });
    }

    private static void digestOfAFullObject() {
        String letters = "p+q+r+s+t+u+P*Q*R*S*T*U*";
        digestIs("full", letters, x -> {
            for (String text : new String[] {"pP", "qQ*", "rR+", "sS", "tT", "uU", "p*", "q+U"}) {
                x.part(Check.read(x, text));
            }
            for (int user = 0; user < 8; user++) {
                for (int used = 0; used < 8; used++) {
                    x.join(user, used, (3 * user + used) % 4);
                }
            }
            Check.write(x, letters);
        });
        digestIs("all clashes", "", x -> {
            Check.read(x, LETTERS);
            for (int part = 0; part < 8; part++) {
                x.part(0);
            }
        });
    }

    private static void digestBehindChanges() {
        PassedDuties x = partsUnder("p", "P*", "q");
        long clean = x.digest();
        x.join(0, 1, 2);
        long joined = x.digest();
        check.holds("20 a join is told", clean != joined);
        x.join(0, 1, -1);
        due("20 as it was, without the join", x.digest(), clean);
        x.join(0, 1, 2);
        due("20 as it was, with the join", x.digest(), joined);
        x.give(1, 2);
        check.holds("20 other terms are told", x.digest() != joined);
        x.give(1, 1);
        due("20 as it was, under its terms", x.digest(), joined);
        x.leave(2);
        x.part(2);
        check.holds("20 that one left is told", x.digest() != joined);
    }

    private static void digestWraps() {
        BigInteger most = BigInteger.valueOf(Long.MAX_VALUE);
        BigInteger small = digestIs("new, below the wrap", "", x -> { });
        check.holds("20 not wrapped", small.compareTo(most) <= 0);
        BigInteger some = digestIs("one letter", "p", x -> x.letter('p'));
        check.holds("20 not wrapped yet", some.compareTo(most) <= 0);
        BigInteger great = digestIs("two letters", "pq", x -> Check.write(x, "pq"));
        check.holds("20 wrapped", great.compareTo(most) > 0);
    }
}
