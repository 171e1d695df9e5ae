/** Each promise of the document: ordinary inputs, the edges that it names, and wrong inputs. */
public final class PromisesTest {
    private static final int NONE = -1, UNKNOWN = -1001, OUTSIDE = -1002, STATE = -1003, FULL = -1004;
    private static final int LEAST = Integer.MIN_VALUE, MOST = Integer.MAX_VALUE;
    private static final Check check = new Check();

    public static void main(String[] args) {
        newObject();
        letter();
        blank();
        fault();
        terms();
        reach();
        two();
        part();
        give();
        leave();
        join();
        kind();
        of();
        names();
        held();
        way();
        wayOfLikeLengths();
        clash();
        cause();
        causeOfLikeSizes();
        cure();
        cureOfLikeSizes();
        count();
        digest();
        refusalsChangeNothing();
        check.end();
    }

    private static void due(String call, long got, long want) {
        check.due(call, got, want);
    }

    private static void newObject() {
        PassedDuties x = new PassedDuties();
        due("1 NONE", PassedDuties.NONE, NONE);
        due("1 UNKNOWN", PassedDuties.UNKNOWN, UNKNOWN);
        due("1 OUTSIDE", PassedDuties.OUTSIDE, OUTSIDE);
        due("1 STATE", PassedDuties.STATE, STATE);
        due("1 FULL", PassedDuties.FULL, FULL);
        for (int what = 0; what <= 7; what++) {
            due("1 count " + what, x.count(what), 0);
        }
        due("1 reach", x.reach(0, 0), UNKNOWN);
        due("1 part", x.part(0), UNKNOWN);
        due("1 of", x.of(0, 0), UNKNOWN);
        due("1 objects are apart", Check.with("p").count(1) + new PassedDuties().count(1), 1);
    }

    private static void letter() {
        PassedDuties x = new PassedDuties();
        for (int code : new int[] {LEAST, -1, 0, 31, 127, 128, 255, MOST}) {
            due("2 letter outside " + code, x.letter(code), OUTSIDE);
        }
        due("2 letter 32", x.letter(32), 1);
        due("2 letter 126", x.letter(126), 2);
        for (int had = 2; had < 24; had++) {
            due("2 letter", x.letter('p'), had + 1);
        }
        due("2 letter 25", x.letter('p'), FULL);
        due("2 outside ahead of full", x.letter(31), OUTSIDE);
        due("2 still 24", x.count(0), 24);
    }

    private static void blank() {
        PassedDuties x = new PassedDuties();
        due("3 blank of none", x.blank(), 0);
        Check.write(x, "p+q");
        due("3 blank", x.blank(), 3);
        due("3 blank again", x.blank(), 0);
        due("3 letter behind it", x.letter('u'), 1);
    }

    private static void fault() {
        faultIn("", 0);
        faultIn("p", 1);
        faultIn("P+q*R", 5);
        faultIn("+", 0);
        faultIn("*p", 0);
        faultIn("o", 0);
        faultIn("v", 0);
        faultIn("O", 0);
        faultIn("V", 0);
        faultIn("p p", 1);
        faultIn("p++", 2);
        faultIn("p+*", 2);
        faultIn("p*+", 2);
        faultIn("pp", 1);
        faultIn("p+qPp", 4);
        faultIn("pP", 2);
        faultIn("p-", 1);
        faultIn("pqrstuPQRSTU", 12);
        faultIn("p+q+r+s+t+u+P*Q*R*S*T*U*", 24);
        faultIn("p+q+r+s+t+u+P*Q*R*S*T*Up", 23);
        faultIn("pqrstuPQRSTUpx", 12);
        faultIn("xx", 0);
    }

    private static void faultIn(String text, int place) {
        PassedDuties x = new PassedDuties();
        Check.write(x, text);
        due("4 fault of " + text, x.fault(), place);
        due("4 letters stay of " + text, x.count(0), text.length());
        boolean good = !text.isEmpty() && place == text.length();
        due("5 terms of " + text, x.terms(), good ? 0 : STATE);
        due("5 letters behind terms of " + text, x.count(0), good ? 0 : text.length());
    }

    private static void terms() {
        PassedDuties x = new PassedDuties();
        due("5 empty", x.terms(), STATE);
        due("5 first", Check.read(x, "p+Q"), 0);
        due("5 second", Check.read(x, "p+Q*"), 1);
        due("5 like the first, in another order", Check.read(x, "Qp+"), 0);
        due("5 how many", x.count(1), 2);
        for (String text : new String[] {"r", "s", "t", "u", "R", "S"}) {
            Check.read(x, text);
        }
        due("5 there are eight", x.count(1), 8);
        due("5 none behind these", Check.read(x, "T"), FULL);
        due("5 full leaves the page", x.blank(), 1);
        due("5 like ones are found when full", Check.read(x, "Q*p+"), 1);
        due("5 and the page is empty", x.count(0), 0);
        Check.write(x, "T+T");
        due("5 state ahead of full", x.terms(), STATE);
        due("5 state leaves the page", x.count(0), 3);
    }

    private static void reach() {
        PassedDuties x = Check.with("p+q*rP*Q+R", "uU*");
        int[] first = {2, 3, 1, 0, 0, 0, 3, 2, 1, 0, 0, 0};
        int[] second = {0, 0, 0, 0, 0, 1, 0, 0, 0, 0, 0, 3};
        for (int item = 0; item < 12; item++) {
            due("6 reach 0 " + item, x.reach(0, item), first[item]);
            due("6 reach 1 " + item, x.reach(1, item), second[item]);
        }
        due("6 unknown", x.reach(2, 0), UNKNOWN);
        due("6 unknown below", x.reach(-1, 0), UNKNOWN);
        due("6 unknown least", x.reach(LEAST, 0), UNKNOWN);
        due("6 unknown first", x.reach(MOST, 12), UNKNOWN);
        due("6 outside", x.reach(1, 12), OUTSIDE);
        due("6 outside below", x.reach(1, -1), OUTSIDE);
        due("6 outside least", x.reach(1, LEAST), OUTSIDE);
    }

    private static void two() {
        PassedDuties x = Check.with("p+q", "p", "P", "pP", "p*", "p*q", "q*", "pq");
        due("7 looser: the second", x.two(0, 1, 0), 2);
        due("7 looser: the first", x.two(1, 0, 0), 1);
        due("7 looser: neither", x.two(1, 2, 0), 0);
        due("7 looser: neither, by reaches", x.two(0, 4, 0), 0);
        due("7 looser: both", x.two(3, 3, 0), 3);
        due("7 looser by reach alone", x.two(1, 4, 0), 1);
        due("7 both of them", x.two(1, 2, 1), 3);
        due("7 both: greater reaches", x.two(0, 4, 1), 5);
        due("7 both, not there", x.two(0, 2, 1), NONE);
        due("7 both of one", x.two(6, 6, 1), 6);
        due("7 common: lesser reaches", x.two(0, 5, 2), 0);
        due("7 common", x.two(3, 4, 2), 1);
        due("7 common of none", x.two(1, 2, 2), NONE);
        due("7 common, not there", x.two(6, 0, 2), NONE);
        due("7 common of one", x.two(7, 7, 2), 7);
        due("7 unknown one", x.two(8, 0, 0), UNKNOWN);
        due("7 unknown other", x.two(0, 8, 0), UNKNOWN);
        due("7 unknown below", x.two(-1, LEAST, 0), UNKNOWN);
        due("7 unknown ahead of outside", x.two(0, 8, 3), UNKNOWN);
        due("7 outside", x.two(0, 0, 3), OUTSIDE);
        due("7 outside below", x.two(0, 0, -1), OUTSIDE);
    }

    private static void part() {
        PassedDuties x = Check.with("p", "q");
        due("8 unknown", x.part(2), UNKNOWN);
        due("8 unknown below", x.part(-1), UNKNOWN);
        for (int number = 0; number < 8; number++) {
            due("8 part", x.part(number % 2), number);
        }
        due("8 its terms", x.of(7, 0), 1);
        due("8 full", x.part(0), FULL);
        due("8 unknown ahead of full", x.part(2), UNKNOWN);
        x.leave(5);
        x.leave(2);
        due("8 least free", x.part(1), 2);
        due("8 new terms there", x.of(2, 0), 1);
        due("8 next free", x.part(0), 5);
        due("8 full again", x.part(0), FULL);
    }

    private static void give() {
        PassedDuties x = Check.with("p*", "P*");
        x.part(0);
        x.part(0);
        x.join(0, 1, 0);
        due("9 give", x.give(1, 1), 0);
        due("9 give the same", x.give(1, 1), 1);
        due("9 they are its own now", x.of(1, 0), 1);
        due("9 and go on", x.held(0, 6), 3);
        due("9 what it had is gone", x.held(1, 0), 0);
        due("9 joins stay", x.kind(0, 1), 0);
        due("9 unknown part", x.give(2, 0), UNKNOWN);
        due("9 unknown part below", x.give(-1, 0), UNKNOWN);
        due("9 unknown terms", x.give(0, 2), UNKNOWN);
        due("9 unknown terms below", x.give(0, -1), UNKNOWN);
    }

    private static void leave() {
        PassedDuties x = Check.with("p*", "P*");
        x.part(0);
        x.part(1);
        x.part(0);
        x.join(0, 1, 0);
        x.join(1, 0, 1);
        x.join(2, 1, 0);
        x.join(0, 2, 3);
        due("10 leave", x.leave(1), 3);
        due("10 joins left", x.count(4), 1);
        due("10 nothing comes from it", x.of(0, 2), 0);
        due("10 leave again", x.leave(1), UNKNOWN);
        due("10 unknown", x.leave(8), UNKNOWN);
        due("10 unknown below", x.leave(LEAST), UNKNOWN);
        due("10 how often", x.count(7), 1);
        due("10 comes again", x.part(0), 1);
        due("10 without its joins", x.kind(0, 1) + x.kind(1, 0) + x.kind(2, 1), -3);
        due("10 leave of no joins", x.leave(1), 0);
        due("10 how often", x.count(7), 2);
    }

    private static void join() {
        PassedDuties x = Check.with("p*");
        x.part(0);
        x.part(0);
        due("11 join", x.join(0, 1, 2), NONE);
        due("11 the other one, too", x.join(1, 0, 0), NONE);
        due("11 by another kind", x.join(0, 1, 3), 2);
        due("11 not any more", x.join(0, 1, -1), 3);
        due("11 not any more again", x.join(0, 1, -1), NONE);
        due("11 the other one stays", x.kind(1, 0), 0);
        due("11 unknown user", x.join(2, 1, 0), UNKNOWN);
        due("11 unknown used", x.join(0, -1, 0), UNKNOWN);
        due("11 the same", x.join(1, 1, 0), UNKNOWN);
        due("11 unknown ahead of outside", x.join(1, 1, 4), UNKNOWN);
        due("11 outside", x.join(0, 1, 4), OUTSIDE);
        due("11 outside below", x.join(0, 1, -2), OUTSIDE);
        due("11 outside least", x.join(0, 1, LEAST), OUTSIDE);
        due("11 nothing came of these", x.count(4), 1);
    }

    private static void kind() {
        PassedDuties x = Check.with("p*");
        x.part(0);
        x.part(0);
        for (int kind = 0; kind <= 3; kind++) {
            x.join(1, 0, kind);
            due("12 kind", x.kind(1, 0), kind);
            due("12 not the other way", x.kind(0, 1), NONE);
        }
        due("12 of itself", x.kind(1, 1), NONE);
        due("12 unknown user", x.kind(2, 1), UNKNOWN);
        due("12 unknown used", x.kind(1, 7), UNKNOWN);
        due("12 unknown below", x.kind(-1, 0), UNKNOWN);
        due("12 unknown same", x.kind(8, 8), UNKNOWN);
    }

    private static void of() {
        PassedDuties x = Check.with("ru", "q*P+u*", "p+Q*R");
        x.part(0);
        x.part(1);
        x.part(2);
        x.join(0, 1, 1);
        x.join(0, 2, 0);
        x.join(2, 0, 2);
        due("13 terms", x.of(2, 0), 2);
        due("13 duties", x.of(0, 1), 1 + 2 + 4 + 32);
        due("13 bars", x.of(0, 2), 1 + 2 + 4);
        due("13 clashes", x.of(0, 3), 1 + 2 + 4);
        due("13 duties by the net alone", x.of(2, 1), 1 + 2 + 32);
        due("13 bars of its own", x.of(2, 2), 2 + 4);
        due("13 clash", x.of(2, 3), 2);
        due("13 uses", x.of(0, 5), 2);
        due("13 is used", x.of(0, 6), 1);
        due("13 uses none", x.of(1, 5), 0);
        due("13 is used by one", x.of(1, 6), 1);
        due("13 unknown", x.of(3, 0), UNKNOWN);
        due("13 unknown ahead of outside", x.of(-1, 7), UNKNOWN);
        due("13 outside", x.of(0, 7), OUTSIDE);
        due("13 outside below", x.of(0, -1), OUTSIDE);
    }

    private static void names() {
        PassedDuties x = Check.with("p");
        for (int part = 0; part < 8; part++) {
            x.part(0);
        }
        x.join(0, 7, 1);
        x.join(7, 6, 0);
        x.join(6, 0, 1);
        x.join(6, 5, 2);
        x.join(5, 4, 0);
        x.join(3, 0, 0);
        x.join(2, 1, 3);
        due("13 names, not itself", x.of(0, 4), 128 + 64);
        due("13 names, round", x.of(6, 4), 1 + 128);
        due("13 names of one that uses it", x.of(3, 4), 1 + 128 + 64);
        due("13 names by a line stop", x.of(5, 4), 16);
        due("13 names as a tool", x.of(2, 4), 0);
        for (int part = 7; part > 0; part--) {
            x.join(part, part - 1, 1);
        }
        due("13 names by a long way", x.of(7, 4), 127);
    }

    private static void held() {
        PassedDuties x = Check.with("pq+r*", "S");
        for (int kind = 0; kind <= 3; kind++) {
            x.part(1);
        }
        x.part(0);
        for (int kind = 0; kind <= 3; kind++) {
            x.join(kind, 4, kind);
            for (int item = 0; item < 3; item++) {
                due("14 by kind " + kind, x.held(kind, item), item + 1 > kind ? item + 1 : 0);
            }
            due("14 its own", x.held(kind, 9), 1);
            due("14 not to the one that is used", x.held(4, 9), 0);
        }
        due("14 unknown", x.held(5, 0), UNKNOWN);
        due("14 unknown below", x.held(-1, 12), UNKNOWN);
        due("14 outside", x.held(0, 12), OUTSIDE);
        due("14 outside below", x.held(0, -1), OUTSIDE);
        PassedDuties y = Check.with("p", "p*", "p+");
        y.part(0);
        y.part(1);
        y.part(2);
        y.join(0, 1, 3);
        due("14 as a tool nothing comes", y.held(0, 0), 1);
        y.join(0, 2, 1);
        due("14 far by one beside", y.held(0, 0), 2);
        y.join(2, 1, 2);
        due("14 the net goes on", y.held(0, 0), 3);
        y.join(1, 0, 0);
        y.leave(2);
        due("14 nothing comes back", y.held(0, 0), 1);
        due("14 the greater one stays", y.held(1, 0), 3);
        PassedDuties z = Check.with("pqrstuPQRSTU", "p");
        z.part(1);
        z.part(0);
        z.join(0, 1, 0);
        due("14 all near ones come", z.of(0, 1) + 64 * z.of(0, 2), 64 * 64 - 1);
        z.join(0, 1, -1);
        due("14 none comes without a join", z.of(0, 1) + 64 * z.of(0, 2), 1);
        z.give(0, 0);
        z.give(1, 1);
        z.join(1, 0, 1);
        z.join(1, 0, -1);
        due("14 nor behind one that was", z.held(1, 1), 0);
        z.give(0, 1);
        Check.read(z, "q");
        z.give(1, 2);
        due("14 nor the first item", z.held(1, 0), 0);
    }

    private static void way() {
        PassedDuties x = Check.with("q", "p*", "p+");
        x.part(0);
        x.part(2);
        x.part(1);
        x.part(0);
        x.join(0, 1, 0);
        x.join(0, 3, 1);
        x.join(3, 2, 2);
        due("15 itself", x.way(0, 0, 0), 0);
        due("15 the longer one of the greater reach", x.way(0, 0, 1), 3);
        due("15 to its own", x.way(0, 0, 2), 2);
        due("15 not so many", x.way(0, 0, 3), NONE);
        due("15 most", x.way(0, 0, MOST), NONE);
        due("15 below 0", x.way(0, 0, -1), NONE);
        due("15 least", x.way(0, 0, LEAST), NONE);
        due("15 own terms", x.way(2, 0, 0), 2);
        due("15 own terms alone", x.way(2, 0, 1), NONE);
        due("15 not held", x.way(0, 5, 0), NONE);
        due("15 unknown", x.way(4, 0, 0), UNKNOWN);
        due("15 unknown ahead of outside", x.way(-1, 12, 0), UNKNOWN);
        due("15 outside", x.way(0, 12, -1), OUTSIDE);
        due("15 outside below", x.way(0, -1, 0), OUTSIDE);
        x.join(0, 3, 3);
        due("15 of the lesser reach now", x.way(0, 0, 1), 1);
        x.join(0, 1, 2);
        due("15 a line lets no far one through", x.way(0, 0, 0), NONE);
        x.join(0, 1, 0);
        x.give(3, 2);
        x.join(3, 2, -1);
        x.join(0, 3, 2);
        x.join(1, 3, 1);
        x.give(1, 0);
        due("15 not by a line, though it would be shorter", x.way(0, 0, 1), 1);
        due("15 but by one beside", x.way(0, 0, 2), 3);
    }

    private static void wayOfLikeLengths() {
        PassedDuties x = Check.with("q", "p*");
        for (int part = 0; part < 6; part++) {
            x.part(0);
        }
        x.part(1);
        x.part(1);
        x.join(5, 4, 0);
        x.join(5, 2, 1);
        x.join(4, 0, 0);
        x.join(4, 6, 0);
        x.join(2, 7, 2);
        x.join(2, 3, 0);
        x.join(3, 6, 0);
        due("15 the lesser one where they are unlike first", x.way(5, 0, 1), 2);
        due("15 then what it uses", x.way(5, 0, 2), 7);
        x.join(2, 6, 0);
        due("15 the lesser one at the end", x.way(5, 0, 2), 6);
        x.join(0, 7, 0);
        x.join(5, 0, 0);
        due("15 the least one first", x.way(5, 0, 1), 0);
        due("15 then the only one", x.way(5, 0, 2), 7);
        x.join(5, 7, 2);
        due("15 fewest parts", x.way(5, 0, 1), 7);
        PassedDuties chain = Check.with("q", "p*");
        for (int part = 0; part < 8; part++) {
            chain.part(part == 0 ? 1 : 0);
        }
        for (int part = 7; part > 0; part--) {
            chain.join(part, part - 1, 2);
        }
        for (int place = 0; place < 8; place++) {
            due("15 a way of all", chain.way(7, 0, place), 7 - place);
        }
        due("15 its end", chain.way(7, 0, 8), NONE);
    }

    private static void clash() {
        PassedDuties x = Check.with("pPu*U*", "q+Q", "r");
        due("16 none", x.clash(0), UNKNOWN);
        x.part(2);
        x.part(1);
        x.part(0);
        x.join(1, 2, 1);
        int[] all = {7, 11, 12, 17};
        for (int place = 0; place < 4; place++) {
            due("16 clash " + place, x.clash(place), all[place]);
        }
        due("16 not so many", x.clash(4), UNKNOWN);
        due("16 below", x.clash(-1), UNKNOWN);
        due("16 least", x.clash(LEAST), UNKNOWN);
        due("16 most", x.clash(MOST), UNKNOWN);
        PassedDuties full = Check.with("pqrstuPQRSTU");
        for (int part = 0; part < 8; part++) {
            full.part(0);
        }
        due("16 the last of all", full.clash(47), 47);
        due("16 one more", full.clash(48), UNKNOWN);
    }

    private static void cause() {
        PassedDuties x = Check.with("p", "P*", "q");
        x.part(0);
        x.part(2);
        x.part(1);
        due("17 no clash", x.cause(0, 0), NONE);
        x.join(0, 1, 0);
        x.join(1, 2, 2);
        due("17 with the one between", x.cause(0, 0), 7);
        due("17 of another act", x.cause(0, 1), NONE);
        x.part(1);
        x.join(0, 3, 2);
        due("17 by fewer", x.cause(0, 0), 9);
        x.give(0, 1);
        x.give(1, 0);
        due("17 near by a whole", x.cause(0, 0), 3);
        due("17 of the other part", x.cause(1, 0), 6);
        due("17 unknown", x.cause(4, 0), UNKNOWN);
        due("17 unknown ahead of outside", x.cause(-1, 6), UNKNOWN);
        due("17 outside", x.cause(0, 6), OUTSIDE);
        due("17 outside below", x.cause(0, -1), OUTSIDE);
        PassedDuties alone = Check.with("p", "pP");
        alone.part(0);
        alone.part(1);
        alone.join(1, 0, 0);
        due("17 alone", alone.cause(1, 0), 2);
        PassedDuties acts = Check.with("qs*u", "Q*R+U");
        acts.part(0);
        acts.part(1);
        acts.part(0);
        acts.join(2, 1, 0);
        acts.join(0, 1, 1);
        int[] user = {NONE, 6, NONE, NONE, NONE, 6};
        int[] beside = {NONE, 3, NONE, NONE, NONE, NONE};
        for (int act = 0; act < 6; act++) {
            due("17 cause 2 " + act, acts.cause(2, act), user[act]);
            due("17 cause 0 " + act, acts.cause(0, act), beside[act]);
            due("17 cause 1 " + act, acts.cause(1, act), NONE);
        }
    }

    private static void causeOfLikeSizes() {
        PassedDuties x = Check.with("q", "p*", "P*");
        x.part(1);
        x.part(2);
        x.part(1);
        x.part(2);
        x.part(0);
        for (int used = 3; used >= 0; used--) {
            x.join(4, used, used % 3);
        }
        due("17 least sum", x.cause(4, 0), 16 + 2 + 1);
        x.leave(0);
        due("17 least sum without it", x.cause(4, 0), 16 + 4 + 2);
        x.join(4, 1, -1);
        due("17 least sum without both", x.cause(4, 0), 16 + 8 + 4);
    }

    private static void cure() {
        PassedDuties x = Check.with("p", "P*", "pP");
        due("18 clean", x.cure(), 0);
        x.part(0);
        x.part(0);
        x.part(1);
        due("18 clean without joins", x.cure(), 0);
        x.join(0, 2, 0);
        x.join(1, 2, 2);
        due("18 the one that both use", x.cure(), 4);
        x.part(2);
        due("18 and one by itself", x.cure(), 12);
        x.leave(2);
        due("18 that one alone", x.cure(), 8);
        x.leave(3);
        due("18 clean again", x.cure(), 0);
        PassedDuties full = Check.with("pP");
        for (int part = 0; part < 8; part++) {
            full.part(0);
        }
        due("18 all", full.cure(), 255);
    }

    private static void cureOfLikeSizes() {
        PassedDuties x = Check.with("p", "P*", "q", "Q*");
        x.part(0);
        x.part(1);
        x.part(2);
        x.part(3);
        x.join(0, 1, 0);
        due("18 the lesser one of two", x.cure(), 1);
        x.join(2, 3, 0);
        due("18 one of each", x.cure(), 1 + 4);
        x.part(1);
        x.join(0, 4, 0);
        due("18 the user of both", x.cure(), 1 + 4);
        x.part(2);
        x.join(5, 3, 1);
        due("18 the one that is used twice", x.cure(), 1 + 8);
    }

    private static void count() {
        PassedDuties x = Check.with("pP", "q", "Q*", "qQrR");
        for (int number : new int[] {0, 1, 2, 3, 1}) {
            x.part(number);
        }
        x.join(1, 2, 2);
        x.join(2, 1, 0);
        x.join(4, 1, 3);
        x.leave(4);
        x.part(1);
        x.leave(0);
        Check.write(x, "p! ");
        int[] want = {3, 4, 4, 2 + 4 + 8 + 16, 2, 4, 3, 2};
        for (int what = 0; what <= 7; what++) {
            due("19 count " + what, x.count(what), want[what]);
        }
        due("19 outside", x.count(8), OUTSIDE);
        due("19 outside below", x.count(-1), OUTSIDE);
        due("19 outside least", x.count(LEAST), OUTSIDE);
    }

    private static void digest() {
        long h = 1697;
        for (int nothing = 0; nothing < 9; nothing++) {
            h = 31 * h;
        }
        due("20 digest of a new one", new PassedDuties().digest(), h);
        PassedDuties x = Check.with("pP+");
        x.part(0);
        x.letter('~');
        h = 1697;
        long[] told = {
            1, 0, 0, 0, 0, 0, 2, 0, 0, 0, 0, 0,
            0, 0, 1, 1, 1, 0, 0, 0, 1, 0, 0, 0, 0, 0, 2, 0, 0, 0, 0, 0, -1,
            0, 1, 1, '~', 1, 1, 1, 1, 0, 1, 1, 0
        };
        for (long number : told) {
            h = 31 * h + number;
        }
        due("20 digest", x.digest(), h);
        due("20 digest changes nothing", x.digest(), h);
    }

    private static void refusalsChangeNothing() {
        PassedDuties x = Check.with("p", "P*", "q", "Q*", "r", "R*", "s", "S*");
        for (int part = 0; part < 8; part++) {
            x.part(part);
        }
        x.join(0, 1, 0);
        x.join(2, 3, 1);
        Check.write(x, "t+u*T+U*p+q+r*s*P+Q+R*S*");
        long before = x.digest();
        x.terms();
        x.letter('p');
        x.letter(0);
        x.part(0);
        x.part(8);
        x.give(8, 0);
        x.give(0, 8);
        x.leave(8);
        x.join(0, 0, 1);
        x.join(0, 1, 4);
        x.join(0, 8, 1);
        due("20 refusals change nothing", x.digest(), before);
    }
}
