/** The boundary cases of promises 1 to 7 and of what the document says of TERMS. */
public final class TextEdgesTest {
    private static final int NONE = -1, UNKNOWN = -1001, OUTSIDE = -1002, STATE = -1003, FULL = -1004;
    private static final int LEAST = Integer.MIN_VALUE, MOST = Integer.MAX_VALUE;
    private static final String LETTERS = "pqrstuPQRSTU";
    private static final String[] SIGNS = {"", "+", "*"};
    private static final String WHOLE_PAGE = "p+q+r+s+t+u+P*Q*R*S*T*U*";
    private static final String[] EIGHT = {"p", "p+", "p*", "P", "P+", "P*", "pP", "uU"};
    private static final Check check = new Check();

    public static void main(String[] args) {
        aNewObjectHasNoTerms();
        aNewObjectHasNoParts();
        anObjectAnswersItsLastPromisedCall();
        aCodeIsFrom32To126();
        thePageHas24LettersAtMost();
        aCodeOutsideIsToldAheadOfAFullPage();
        blankTellsHowManyLettersThereWere();
        blankLeavesNothingBehind();
        anEmptyPageHasNoFault();
        aWholePageHasNoFault();
        theFaultIsTheFirstOne();
        theLettersOfItemsAndNoOthers();
        whatMayStandBehindALetter();
        whatMayStandBehindASign();
        noItemTwice();
        oneToTwelveItems();
        anEmptyPageIsNoTerms();
        termsThatAreNoneLeaveThePage();
        termsEmptyThePage();
        numbersFrom0AsTheyCome();
        eightTermsAtMost();
        fullLeavesThePage();
        likeTermsAreThoseThatAreThere();
        unlikeInOneReachAreNew();
        stateIsToldAheadOfFull();
        eachItemWithEachReach();
        reachKnowsTheTermsThatAreThere();
        reachKnowsTwelveItems();
        looserByOneReach();
        looserOfNeither();
        bothTakesTheGreaterReach();
        bothThatIsNotThere();
        commonTakesTheLesserReach();
        commonOfNothing();
        twoKnowsTheTermsThatAreThere();
        twoKnowsThreeQuestions();
        check.end();
    }

    private static void due(String call, long got, long want) {
        check.due(call, got, want);
    }

    private static PassedDuties page(String text) {
        PassedDuties x = new PassedDuties();
        Check.write(x, text);
        return x;
    }

    // ---- promise 1

    private static void aNewObjectHasNoTerms() {
        PassedDuties x = new PassedDuties();
        due("1 count of terms", x.count(1), 0);
        due("1 reach", x.reach(0, 0), UNKNOWN);
        due("1 two", x.two(0, 0, 0), UNKNOWN);
        due("1 part", x.part(0), UNKNOWN);
        due("1 letters", x.count(0), 0);
        due("1 fault", x.fault(), 0);
        due("1 terms", x.terms(), STATE);
        due("1 blank", x.blank(), 0);
    }

    private static void aNewObjectHasNoParts() {
        PassedDuties x = Check.with("pP");
        for (int what = 2; what <= 7; what++) {
            due("1 count " + what, x.count(what), 0);
        }
        due("1 of", x.of(0, 0), UNKNOWN);
        due("1 held", x.held(0, 0), UNKNOWN);
        due("1 way", x.way(0, 0, 0), UNKNOWN);
        due("1 kind", x.kind(0, 0), UNKNOWN);
        due("1 give", x.give(0, 0), UNKNOWN);
        due("1 leave", x.leave(0), UNKNOWN);
        due("1 join", x.join(0, 1, 0), UNKNOWN);
        due("1 cause", x.cause(0, 0), UNKNOWN);
        due("1 clash", x.clash(0), UNKNOWN);
        due("1 cure", x.cure(), 0);
        due("1 the first part", x.part(0), 0);
    }

    private static void anObjectAnswersItsLastPromisedCall() {
        PassedDuties x = Check.with("pP");
        for (int call = 4; call < 512; call += 2) {
            due("1 part, call " + call, x.part(0), 0);
            due("1 leave, call " + (call + 1), x.leave(0), 0);
        }
        due("1 call 512: how often one left", x.count(7), 254);
    }

    // ---- promise 2

    private static void aCodeIsFrom32To126() {
        PassedDuties x = new PassedDuties();
        due("2 letter 31", x.letter(31), OUTSIDE);
        due("2 letter 32", x.letter(32), 1);
        due("2 letter 33", x.letter(33), 2);
        due("2 letter 125", x.letter(125), 3);
        due("2 letter 126", x.letter(126), 4);
        due("2 letter 127", x.letter(127), OUTSIDE);
        for (int code : new int[] {LEAST, -112, -1, 0, 112 + 128, 112 + 256, 112 + 65536, MOST}) {
            due("2 letter " + code, x.letter(code), OUTSIDE);
        }
        due("2 no letter came by these", x.count(0), 4);
    }

    private static void thePageHas24LettersAtMost() {
        PassedDuties x = new PassedDuties();
        for (int had = 0; had < 24; had++) {
            due("2 letter behind " + had, x.letter('p'), had + 1);
        }
        due("2 letter behind 24", x.letter('p'), FULL);
        due("2 letters are 24", x.count(0), 24);
        due("2 letter behind 24, again", x.letter('q'), FULL);
        x.blank();
        due("2 letter behind none", x.letter('p'), 1);
    }

    private static void aCodeOutsideIsToldAheadOfAFullPage() {
        PassedDuties x = page(WHOLE_PAGE);
        due("2 letter 31 when full", x.letter(31), OUTSIDE);
        due("2 letter 32 when full", x.letter(32), FULL);
        due("2 letter 126 when full", x.letter(126), FULL);
        due("2 letter 127 when full", x.letter(127), OUTSIDE);
    }

    // ---- promise 3

    private static void blankTellsHowManyLettersThereWere() {
        for (int letters = 0; letters <= 24; letters++) {
            PassedDuties x = page("q".repeat(letters));
            due("3 blank of " + letters, x.blank(), letters);
            due("3 letters behind blank", x.count(0), 0);
            due("3 blank of an empty page", x.blank(), 0);
        }
        PassedDuties over = page("q".repeat(25));
        due("3 blank behind a refused letter", over.blank(), 24);
    }

    private static void blankLeavesNothingBehind() {
        PassedDuties x = page("q+xx");
        x.blank();
        due("3 fault of what was", x.fault(), 0);
        Check.write(x, "q");
        due("3 fault of the new letter", x.fault(), 1);
        due("3 terms of the new letter", x.terms(), 0);
        due("3 without the sign that was", x.reach(0, 1), 1);
    }

    // ---- promise 4

    private static void anEmptyPageHasNoFault() {
        PassedDuties x = new PassedDuties();
        due("4 fault of an empty page", x.fault(), 0);
        x.letter('p');
        due("4 fault of one letter", x.fault(), 1);
        x.terms();
        due("4 fault of a page that was read", x.fault(), 0);
    }

    private static void aWholePageHasNoFault() {
        PassedDuties x = new PassedDuties();
        for (int place = 0; place < 24; place++) {
            x.letter(WHOLE_PAGE.charAt(place));
            due("4 fault of " + (place + 1) + " good letters", x.fault(), place + 1);
        }
        due("4 fault leaves the page", x.count(0), 24);
    }

    private static void theFaultIsTheFirstOne() {
        for (int place = 0; place < 24; place++) {
            String ahead = WHOLE_PAGE.substring(0, place);
            due("4 fault behind " + ahead, page(ahead + "!").fault(), place);
            due("4 the first of faults behind " + ahead, page(ahead + "!!p").fault(), place);
            String behind = WHOLE_PAGE.substring(place + 1);
            due("4 fault amid good ones", page(ahead + "!" + behind).fault(), place);
        }
    }

    // ---- what TERMS are as texts

    private static void firstLetter(int code, boolean good) {
        PassedDuties x = new PassedDuties();
        x.letter(code);
        due("4 fault of code " + code, x.fault(), good ? 1 : 0);
        due("5 terms of code " + code, x.terms(), good ? 0 : STATE);
    }

    private static void theLettersOfItemsAndNoOthers() {
        for (int code = 32; code <= 126; code++) {
            firstLetter(code, LETTERS.indexOf(code) >= 0);
        }
        for (String letter : new String[] {"p", "u", "P", "U"}) {
            due("4 letter " + letter, page(letter).fault(), 1);
        }
        for (String letter : new String[] {"o", "v", "O", "V", "+", "*"}) {
            due("4 no letter " + letter, page(letter).fault(), 0);
        }
    }

    private static void whatMayStandBehindALetter() {
        for (int code = 32; code <= 126; code++) {
            boolean good = code == '+' || code == '*' || "prstuPQRSTU".indexOf(code) >= 0;
            PassedDuties x = page("q" + (char) code);
            due("4 fault of q and code " + code, x.fault(), good ? 2 : 1);
            due("5 terms of q and code " + code, x.terms(), good ? 0 : STATE);
        }
    }

    private static void whatMayStandBehindASign() {
        for (String sign : new String[] {"+", "*"}) {
            for (int code = 32; code <= 126; code++) {
                boolean good = "prstuPQRSTU".indexOf(code) >= 0;
                PassedDuties x = page("q" + sign + (char) code);
                due("4 fault of q" + sign + " and code " + code, x.fault(), good ? 3 : 2);
                due("5 terms of q" + sign + " and code " + code, x.terms(), good ? 0 : STATE);
            }
        }
    }

    private static void noItemTwice() {
        for (int item = 0; item < 12; item++) {
            String letter = LETTERS.substring(item, item + 1);
            String others = LETTERS.replace(letter, "");
            for (String sign : SIGNS) {
                String once = letter + sign + others;
                due("4 once in " + once, page(once).fault(), once.length());
                due("4 twice behind all", page(once + letter).fault(), once.length());
                due("5 twice behind all", page(once + letter).terms(), STATE);
                due("4 twice at once", page(letter + sign + letter).fault(), 1 + sign.length());
                due("5 twice at once", page(letter + sign + letter).terms(), STATE);
            }
            String other = LETTERS.substring((item + 6) % 12, (item + 6) % 12 + 1);
            due("5 the duty and the bar of an act", page(letter + other).terms(), 0);
        }
    }

    private static void oneToTwelveItems() {
        due("5 no item", page("").terms(), STATE);
        for (int items = 1; items <= 12; items++) {
            String text = LETTERS.substring(0, items);
            due("5 items " + items, page(text).terms(), 0);
            String signed = WHOLE_PAGE.substring(0, 2 * items);
            due("5 items with signs " + items, page(signed).terms(), 0);
        }
        for (int item = 0; item < 12; item++) {
            PassedDuties x = page(LETTERS + LETTERS.charAt(item));
            due("4 thirteen items", x.fault(), 12);
            due("5 thirteen items", x.terms(), STATE);
        }
    }

    // ---- promise 5

    private static void anEmptyPageIsNoTerms() {
        PassedDuties x = new PassedDuties();
        due("5 terms of a new page", x.terms(), STATE);
        x.letter('p');
        due("5 terms of one letter", x.terms(), 0);
        due("5 terms of the page that was read", x.terms(), STATE);
        x.letter('q');
        x.blank();
        due("5 terms of a page that was blanked", x.terms(), STATE);
        due("5 how many", x.count(1), 1);
    }

    private static void termsThatAreNoneLeaveThePage() {
        PassedDuties x = page("p+!");
        due("5 terms of a fault at the end", x.terms(), STATE);
        due("5 the letters stay", x.count(0), 3);
        due("5 the fault stays", x.fault(), 2);
        due("5 no terms came", x.count(1), 0);
        due("5 the next letter comes behind them", x.letter('q'), 4);
        PassedDuties y = page("p+");
        due("5 the same without the fault", y.terms(), 0);
    }

    private static void termsEmptyThePage() {
        for (String text : new String[] {"p", WHOLE_PAGE}) {
            PassedDuties x = page(text);
            due("5 terms", x.terms(), 0);
            due("5 the page is empty", x.count(0), 0);
            Check.write(x, text);
            due("5 the same again", x.terms(), 0);
            due("5 the page is empty again", x.count(0), 0);
            due("5 one came", x.count(1), 1);
        }
    }

    private static void numbersFrom0AsTheyCome() {
        PassedDuties x = new PassedDuties();
        for (int number = 0; number < 8; number++) {
            due("5 how many ahead of it", x.count(1), number);
            due("5 terms " + EIGHT[number], Check.read(x, EIGHT[number]), number);
        }
        due("5 how many in the end", x.count(1), 8);
    }

    private static void eightTermsAtMost() {
        PassedDuties x = new PassedDuties();
        for (int number = 0; number < 7; number++) {
            Check.read(x, EIGHT[number]);
        }
        due("5 the eighth", Check.read(x, EIGHT[7]), 7);
        due("5 the ninth", Check.read(x, "t"), FULL);
        due("5 how many", x.count(1), 8);
        due("5 the ninth is not there", x.reach(8, 4), UNKNOWN);
        due("5 the eighth stays", x.reach(7, 5), 1);
        due("5 the ninth again", x.terms(), FULL);
    }

    private static void fullLeavesThePage() {
        PassedDuties x = Check.with(EIGHT);
        due("5 full", Check.read(x, "t+T*"), FULL);
        due("5 the letters stay", x.count(0), 4);
        due("5 without a fault", x.fault(), 4);
        due("5 the next letter comes behind them", x.letter('s'), 5);
        due("5 blank tells them", x.blank(), 5);
    }

    private static void likeTermsAreThoseThatAreThere() {
        PassedDuties x = Check.with(EIGHT);
        due("5 like the first, when full", Check.read(x, "p"), 0);
        due("5 like the last, when full", Check.read(x, "uU"), 7);
        due("5 like the last, in another order", Check.read(x, "Uu"), 7);
        due("5 the page is empty", x.count(0), 0);
        PassedDuties y = Check.with("p+q*R", "q");
        due("5 like the first, not when full", Check.read(y, "Rp+q*"), 0);
        due("5 like the first, not when full", Check.read(y, "q*Rp+"), 0);
        due("5 none came", y.count(1), 2);
        due("5 others come behind", Check.read(y, "Rp+q"), 2);
    }

    private static void unlikeInOneReachAreNew() {
        for (int item = 0; item < 12; item++) {
            char letter = LETTERS.charAt(item);
            String others = LETTERS.replace("" + letter, "");
            PassedDuties x = Check.with(others);
            for (int sign = 0; sign < 3; sign++) {
                due("5 unlike in " + letter, Check.read(x, others + letter + SIGNS[sign]), sign + 1);
            }
            for (int sign = 0; sign < 3; sign++) {
                due("5 like in " + letter, Check.read(x, letter + SIGNS[sign] + others), sign + 1);
            }
        }
    }

    private static void stateIsToldAheadOfFull() {
        PassedDuties x = Check.with(EIGHT);
        due("5 an empty page, when full", x.terms(), STATE);
        due("5 a fault, when full", Check.read(x, "tt"), STATE);
        x.blank();
        due("5 no fault, when full", Check.read(x, "t"), FULL);
    }

    // ---- promise 6

    private static void eachItemWithEachReach() {
        for (int item = 0; item < 12; item++) {
            for (int sign = 0; sign < 3; sign++) {
                PassedDuties x = Check.with(LETTERS.charAt(item) + SIGNS[sign]);
                for (int asked = 0; asked < 12; asked++) {
                    int want = asked == item ? sign + 1 : 0;
                    due("6 reach of " + asked + " in item " + item, x.reach(0, asked), want);
                }
            }
        }
    }

    private static void reachKnowsTheTermsThatAreThere() {
        PassedDuties x = new PassedDuties();
        for (int there = 0; there <= 8; there++) {
            due("6 below the first", x.reach(-1, 0), UNKNOWN);
            due("6 behind the last of " + there, x.reach(there, 0), UNKNOWN);
            due("6 far behind", x.reach(MOST, 0), UNKNOWN);
            due("6 far below", x.reach(LEAST, 0), UNKNOWN);
            due("6 ahead of outside", x.reach(there, 12), UNKNOWN);
            if (there > 0) {
                due("6 the first", x.reach(0, 0), 1);
                due("6 the last of " + there, x.reach(there - 1, 11), there == 8 ? 1 : 0);
                due("6 outside of the last", x.reach(there - 1, 12), OUTSIDE);
            }
            if (there < 8) {
                Check.read(x, EIGHT[there]);
            }
        }
    }

    private static void reachKnowsTwelveItems() {
        PassedDuties x = Check.with("p+qRU*");
        due("6 item -1", x.reach(0, -1), OUTSIDE);
        due("6 item 0", x.reach(0, 0), 2);
        due("6 item 1", x.reach(0, 1), 1);
        due("6 item 10", x.reach(0, 10), 0);
        due("6 item 11", x.reach(0, 11), 3);
        due("6 item 12", x.reach(0, 12), OUTSIDE);
        for (int item : new int[] {LEAST, -12, 13, 24, 32, 64, MOST}) {
            due("6 item " + item, x.reach(0, item), OUTSIDE);
        }
    }

    // ---- promise 7

    /** TERMS 0 to 3: the ITEM with that REACH, beside all others with their REACHES like. */
    private static PassedDuties rising(int item) {
        char letter = LETTERS.charAt(item);
        String others = LETTERS.replace("" + letter, "");
        return Check.with(others, others + letter, others + letter + "+", others + letter + "*");
    }

    private static void looserByOneReach() {
        for (int item = 0; item < 12; item++) {
            PassedDuties x = rising(item);
            for (int one = 0; one < 4; one++) {
                for (int other = 0; other < 4; other++) {
                    int want = (one <= other ? 1 : 0) + (other <= one ? 2 : 0);
                    due("7 looser of " + one + " " + other, x.two(one, other, 0), want);
                }
            }
        }
    }

    private static void looserOfNeither() {
        PassedDuties x = Check.with("pq+", "p+q", "p+q+", "pq", "p", "P");
        due("7 greater in one item, less in another", x.two(0, 1, 0), 0);
        due("7 the other way round", x.two(1, 0, 0), 0);
        due("7 like in one, less in the other", x.two(0, 2, 0), 1);
        due("7 greater in one, like in the other", x.two(1, 3, 0), 2);
        due("7 the duty and the bar of an act", x.two(4, 5, 0), 0);
        due("7 themselves", x.two(5, 5, 0), 3);
    }

    private static void bothTakesTheGreaterReach() {
        for (int item = 0; item < 12; item++) {
            PassedDuties x = rising(item);
            for (int one = 0; one < 4; one++) {
                for (int other = 0; other < 4; other++) {
                    due("7 both of " + one + " " + other, x.two(one, other, 1), Math.max(one, other));
                }
            }
        }
    }

    private static void bothThatIsNotThere() {
        PassedDuties x = Check.with("pq+", "p+q", "p+", "pq", "p+q*");
        due("7 both, not there", x.two(0, 1, 1), NONE);
        due("7 nor is it now", x.count(1), 5);
        Check.read(x, "q+p+");
        due("7 both, there now", x.two(0, 1, 1), 5);
        due("7 both of one and itself", x.two(4, 4, 1), 4);
    }

    private static void commonTakesTheLesserReach() {
        for (int item = 0; item < 12; item++) {
            PassedDuties x = rising(item);
            for (int one = 0; one < 4; one++) {
                for (int other = 0; other < 4; other++) {
                    due("7 common of " + one + " " + other, x.two(one, other, 2), Math.min(one, other));
                }
            }
        }
    }

    private static void commonOfNothing() {
        PassedDuties x = Check.with("p*", "P*", "pq*", "p+q", "q+");
        due("7 common of no item", x.two(0, 1, 2), NONE);
        due("7 common of one item, not there", x.two(0, 3, 2), NONE);
        due("7 common of two items, not there", x.two(2, 3, 2), NONE);
        due("7 nor is it now", x.count(1), 5);
        Check.read(x, "qp");
        due("7 common of two items, there now", x.two(2, 3, 2), 5);
        due("7 common of no item still", x.two(1, 0, 2), NONE);
    }

    private static void twoKnowsTheTermsThatAreThere() {
        PassedDuties x = new PassedDuties();
        for (int there = 0; there <= 8; there++) {
            for (int what = -1; what <= 3; what++) {
                due("7 one behind the last", x.two(there, 0, what), UNKNOWN);
                due("7 other behind the last", x.two(0, there, what), UNKNOWN);
                due("7 one below", x.two(-1, 0, what), UNKNOWN);
                due("7 other below", x.two(0, -1, what), UNKNOWN);
            }
            if (there > 0) {
                due("7 the last of " + there, x.two(there - 1, there - 1, 0), 3);
            }
            if (there < 8) {
                Check.read(x, EIGHT[there]);
            }
        }
        due("7 far behind and far below", x.two(MOST, LEAST, 0), UNKNOWN);
        due("7 the first and the last", x.two(0, 7, 0), 0);
        due("7 the last and the first", x.two(7, 0, 2), NONE);
    }

    private static void twoKnowsThreeQuestions() {
        PassedDuties x = Check.with("p", "pP");
        due("7 what -1", x.two(0, 1, -1), OUTSIDE);
        due("7 what 0", x.two(0, 1, 0), 1);
        due("7 what 1", x.two(0, 1, 1), 1);
        due("7 what 2", x.two(0, 1, 2), 0);
        due("7 what 3", x.two(0, 1, 3), OUTSIDE);
        due("7 what least", x.two(0, 1, LEAST), OUTSIDE);
        due("7 what most", x.two(0, 1, MOST), OUTSIDE);
    }
}
