/** The boundary cases of promises 8 to 15 and of what the document says of PARTS and JOINS. */
public final class PartEdgesTest {
    private static final int NONE = -1, UNKNOWN = -1001, OUTSIDE = -1002, FULL = -1004;
    private static final int LEAST = Integer.MIN_VALUE, MOST = Integer.MAX_VALUE;
    private static final String LETTERS = "pqrstuPQRSTU";
    private static final String[] SIGNS = {"", "+", "*"};
    private static final Check check = new Check();

    public static void main(String[] args) {
        eightPartsAtMost();
        theLeastNumberThatIsFree();
        partKnowsTheTermsThatAreThere();
        unknownTermsAreToldAheadOfFull();
        aPartThatComesAgainHasNothingOfTheOneThatLeft();
        giveTellsTheTermsItHad();
        giveKnowsPartsAndTermsThatAreThere();
        giveChangesNoJoins();
        leaveTellsNoneToFourteenJoins();
        leaveKnowsThePartsThatAreThere();
        leaveTakesItsOwnJoinsAlone();
        aJoinOfEachKind();
        joinKnowsFiveKinds();
        aJoinThatIsNotAnyMore();
        nothingIsJoinedToItself();
        joinKnowsThePartsThatAreThere();
        unknownPartsAreToldAheadOfAKindOutside();
        theOtherOneMayUseItToo();
        kindOfItselfIsNone();
        kindKnowsThePartsThatAreThere();
        ofKnowsSevenQuestions();
        ofKnowsThePartsThatAreThere();
        ofTellsNoneToAllActs();
        aClashNeedsBoth();
        ofTellsNoneToSevenJoins();
        namesByKindsUpTo1();
        namesOfAllOthers();
        namesGoOnlyToThoseThatAreUsed();
        aReachGreaterThanTheKind();
        itGoesOnWithThatReach();
        theGreatestReachIsHeld();
        heldInARing();
        allGoesRoundARing();
        heldKnowsTwelveItems();
        heldKnowsThePartsThatAreThere();
        wayOfItsOwn();
        wayHasItsPlacesAndNoMore();
        wayOfAllParts();
        wayEndsThoughItsEndUsesOthers();
        wayEndsWhereTheReachIsHeld();
        wayByJoinsThatLetItThrough();
        wayOfFewestParts();
        wayOfTheLesserNumber();
        wayOfWhatIsNotHeld();
        wayKnowsTwelveItems();
        wayKnowsThePartsThatAreThere();
        check.end();
    }

    private static void due(String call, long got, long want) {
        check.due(call, got, want);
    }

    /** So many PARTS, all under the TERMS 0. */
    private static PassedDuties parts(int many, String... texts) {
        PassedDuties x = Check.with(texts);
        for (int part = 0; part < many; part++) {
            x.part(0);
        }
        return x;
    }

    private static void joinAll(PassedDuties x, int kind) {
        for (int user = 0; user < 8; user++) {
            for (int used = 0; used < 8; used++) {
                if (user != used) {
                    x.join(user, used, kind);
                }
            }
        }
    }

    // ---- promise 8

    private static void eightPartsAtMost() {
        PassedDuties x = Check.with("p", "q");
        for (int number = 0; number < 8; number++) {
            due("8 how many ahead of it", x.count(2), number);
            due("8 part " + number, x.part(0), number);
        }
        due("8 the ninth", x.part(0), FULL);
        due("8 the ninth, under others", x.part(1), FULL);
        due("8 how many", x.count(2), 8);
        due("8 which", x.count(3), 255);
        x.leave(7);
        due("8 the eighth again", x.part(1), 7);
        due("8 the ninth again", x.part(1), FULL);
    }

    private static void theLeastNumberThatIsFree() {
        for (int first = 0; first < 8; first++) {
            for (int second = 0; second < 8; second++) {
                if (first != second) {
                    leastOfTwo(first, second);
                }
            }
        }
        PassedDuties x = parts(3, "p");
        due("8 behind the last, if none left", x.part(0), 3);
        for (int part = 0; part < 4; part++) {
            x.leave(part);
        }
        due("8 the first, if all left", x.part(0), 0);
        due("8 then the second", x.part(0), 1);
    }

    private static void leastOfTwo(int first, int second) {
        PassedDuties x = parts(8, "p");
        x.leave(first);
        x.leave(second);
        due("8 the lesser free one", x.part(0), Math.min(first, second));
        due("8 the greater free one", x.part(0), Math.max(first, second));
        due("8 none is free", x.part(0), FULL);
    }

    private static void partKnowsTheTermsThatAreThere() {
        PassedDuties x = new PassedDuties();
        due("8 terms 0 of none", x.part(0), UNKNOWN);
        for (int there = 1; there <= 8; there++) {
            Check.read(x, LETTERS.substring(0, there));
            due("8 terms behind the last of " + there, x.part(there), UNKNOWN);
            due("8 terms below", x.part(-1), UNKNOWN);
            due("8 the last of " + there, x.part(there - 1), there - 1);
            due("8 its terms", x.of(there - 1, 0), there - 1);
        }
        PassedDuties y = Check.with("p");
        due("8 terms least", y.part(LEAST), UNKNOWN);
        due("8 terms most", y.part(MOST), UNKNOWN);
        due("8 no part came", y.count(2), 0);
        due("8 the first number is free", y.part(0), 0);
    }

    private static void unknownTermsAreToldAheadOfFull() {
        PassedDuties x = parts(8, "p");
        due("8 terms -1, when full", x.part(-1), UNKNOWN);
        due("8 terms 0, when full", x.part(0), FULL);
        due("8 terms 1, when full", x.part(1), UNKNOWN);
    }

    private static void aPartThatComesAgainHasNothingOfTheOneThatLeft() {
        PassedDuties x = parts(2, "p*", "Q");
        x.join(0, 1, 0);
        x.join(1, 0, 0);
        x.leave(1);
        due("8 it comes again", x.part(1), 1);
        due("8 under the new terms", x.of(1, 0), 1);
        due("8 without what it had", x.held(1, 0), 0);
        due("8 with what they have", x.held(1, 7), 1);
        due("8 not joined", x.kind(1, 0), NONE);
        due("8 nor is the other one", x.kind(0, 1), NONE);
        due("8 nothing comes to the other one", x.held(0, 7), 0);
    }

    // ---- promise 9

    private static void giveTellsTheTermsItHad() {
        PassedDuties x = Check.with("p", "q", "r", "s", "t", "u", "P", "Q");
        x.part(0);
        for (int number = 1; number < 8; number++) {
            due("9 give " + number, x.give(0, number), number - 1);
        }
        due("9 give the same", x.give(0, 7), 7);
        due("9 give the first", x.give(0, 0), 7);
        due("9 it has them", x.of(0, 0), 0);
        due("9 held of them", x.held(0, 0), 1);
        due("9 held of those that it had", x.held(0, 7), 0);
    }

    private static void giveKnowsPartsAndTermsThatAreThere() {
        PassedDuties x = parts(3, "p", "q");
        x.leave(1);
        for (int part : new int[] {LEAST, -1, 1, 3, 7, 8, MOST}) {
            due("9 part " + part, x.give(part, 1), UNKNOWN);
            due("9 part and terms " + part, x.give(part, 2), UNKNOWN);
        }
        for (int number : new int[] {LEAST, -1, 2, 7, 8, MOST}) {
            due("9 terms " + number, x.give(2, number), UNKNOWN);
        }
        due("9 nothing was given", x.of(2, 0), 0);
        due("9 the last part, the last terms", x.give(2, 1), 0);
        due("9 the first part, the first terms", x.give(0, 0), 0);
        due("9 part 1 did not come", x.count(3), 5);
    }

    private static void giveChangesNoJoins() {
        PassedDuties x = parts(3, "p", "q");
        x.join(0, 1, 0);
        x.join(1, 2, 3);
        x.give(1, 1);
        due("9 its user", x.kind(0, 1), 0);
        due("9 the one that it uses", x.kind(1, 2), 3);
        due("9 no others", x.count(4), 2);
        due("9 what it has now goes on", x.held(0, 1), 1);
        due("9 the others have theirs", x.of(0, 0) + x.of(2, 0), 0);
    }

    // ---- promise 10

    private static void leaveTellsNoneToFourteenJoins() {
        PassedDuties x = parts(8, "p");
        joinAll(x, 3);
        for (int part = 7; part >= 0; part--) {
            due("10 leave, with so many others: " + part, x.leave(part), 2 * part);
            due("10 joins behind it", x.count(4), part * (part - 1));
            due("10 how often", x.count(7), 8 - part);
        }
        due("10 none is there", x.count(3), 0);
        PassedDuties user = parts(2, "p");
        user.join(0, 1, 0);
        due("10 the one that uses another", user.leave(0), 1);
        PassedDuties used = parts(2, "p");
        used.join(0, 1, 0);
        due("10 the one that is used", used.leave(1), 1);
    }

    private static void leaveKnowsThePartsThatAreThere() {
        PassedDuties x = parts(7, "p");
        for (int part : new int[] {LEAST, -8, -1, 7, 8, 32, 64, MOST}) {
            due("10 leave " + part, x.leave(part), UNKNOWN);
        }
        due("10 leave 6", x.leave(6), 0);
        due("10 leave 6 again", x.leave(6), UNKNOWN);
        due("10 leave 0", x.leave(0), 0);
        due("10 leave 0 again", x.leave(0), UNKNOWN);
        due("10 how often", x.count(7), 2);
        due("10 which are there", x.count(3), 62);
    }

    private static void leaveTakesItsOwnJoinsAlone() {
        PassedDuties x = parts(8, "p");
        joinAll(x, 1);
        x.leave(3);
        for (int user = 0; user < 8; user++) {
            for (int used = 0; used < 8; used++) {
                boolean gone = user == 3 || used == 3;
                int want = gone ? UNKNOWN : user == used ? NONE : 1;
                due("10 kind " + user + " " + used, x.kind(user, used), want);
            }
        }
    }

    // ---- promise 11

    private static void aJoinOfEachKind() {
        for (int user = 0; user < 8; user += 7) {
            PassedDuties x = parts(8, "p");
            int before = NONE;
            for (int kind : new int[] {0, 1, 2, 3, 0, 3, 2, 1, 1}) {
                due("11 join by " + kind, x.join(user, 7 - user, kind), before);
                due("11 one join", x.count(4), 1);
                before = kind;
            }
        }
    }

    private static void joinKnowsFiveKinds() {
        PassedDuties x = parts(2, "p");
        due("11 kind -2, not joined", x.join(0, 1, -2), OUTSIDE);
        due("11 kind 4, not joined", x.join(0, 1, 4), OUTSIDE);
        due("11 kind 0", x.join(0, 1, 0), NONE);
        due("11 kind -2", x.join(0, 1, -2), OUTSIDE);
        due("11 kind 3", x.join(0, 1, 3), 0);
        due("11 kind 4", x.join(0, 1, 4), OUTSIDE);
        due("11 kind least", x.join(0, 1, LEAST), OUTSIDE);
        due("11 kind most", x.join(0, 1, MOST), OUTSIDE);
        due("11 kind -1", x.join(0, 1, -1), 3);
        due("11 kind NONE again", x.join(0, 1, -1), NONE);
    }

    private static void aJoinThatIsNotAnyMore() {
        PassedDuties x = parts(2, "p", "q");
        x.give(1, 1);
        due("11 not any more, where none was", x.join(0, 1, -1), NONE);
        due("11 no joins", x.count(4), 0);
        x.join(0, 1, 0);
        due("11 it comes", x.held(0, 1), 1);
        due("11 not any more", x.join(0, 1, -1), 0);
        due("11 no joins again", x.count(4), 0);
        due("11 kind of it", x.kind(0, 1), NONE);
        due("11 it comes no more", x.held(0, 1), 0);
        due("11 leave tells none", x.leave(0), 0);
    }

    private static void nothingIsJoinedToItself() {
        PassedDuties x = parts(8, "p");
        for (int part = 0; part < 8; part++) {
            for (int kind = -2; kind <= 4; kind++) {
                due("11 join " + part + " to itself", x.join(part, part, kind), UNKNOWN);
            }
        }
        due("11 no joins", x.count(4), 0);
        due("11 neighbours may be joined", x.join(3, 4, 0), NONE);
        due("11 both ways", x.join(4, 3, 0), NONE);
    }

    private static void joinKnowsThePartsThatAreThere() {
        PassedDuties x = parts(7, "p");
        x.leave(3);
        for (int part : new int[] {LEAST, -1, 3, 7, 8, 9, MOST}) {
            due("11 user " + part, x.join(part, 0, 0), UNKNOWN);
            due("11 used " + part, x.join(0, part, 0), UNKNOWN);
            due("11 both " + part, x.join(part, part, 0), UNKNOWN);
            due("11 not any more " + part, x.join(0, part, -1), UNKNOWN);
        }
        due("11 the first and the last", x.join(0, 6, 0), NONE);
        due("11 the last and the first", x.join(6, 0, 0), NONE);
        due("11 joins", x.count(4), 2);
    }

    private static void unknownPartsAreToldAheadOfAKindOutside() {
        PassedDuties x = parts(2, "p");
        for (int kind : new int[] {LEAST, -2, 4, MOST}) {
            due("11 user", x.join(2, 0, kind), UNKNOWN);
            due("11 used", x.join(0, 2, kind), UNKNOWN);
            due("11 the same", x.join(1, 1, kind), UNKNOWN);
            due("11 two that are there", x.join(0, 1, kind), OUTSIDE);
        }
    }

    private static void theOtherOneMayUseItToo() {
        PassedDuties x = parts(2, "p", "q");
        x.give(1, 1);
        due("11 one", x.join(0, 1, 0), NONE);
        due("11 the other", x.join(1, 0, 3), NONE);
        due("11 joins", x.count(4), 2);
        due("11 kind of one", x.kind(0, 1), 0);
        due("11 kind of the other", x.kind(1, 0), 3);
        due("11 to one", x.held(0, 1), 1);
        due("11 to the other", x.held(1, 0), 0);
        due("11 one not any more", x.join(0, 1, -1), 0);
        due("11 the other still", x.kind(1, 0), 3);
    }

    // ---- promise 12

    private static void kindOfItselfIsNone() {
        PassedDuties x = parts(8, "p");
        joinAll(x, 2);
        for (int part = 0; part < 8; part++) {
            due("12 kind of itself " + part, x.kind(part, part), NONE);
        }
        x.leave(4);
        due("12 kind of itself, if it is not there", x.kind(4, 4), UNKNOWN);
    }

    private static void kindKnowsThePartsThatAreThere() {
        PassedDuties x = parts(7, "p");
        x.leave(3);
        x.join(0, 6, 1);
        for (int part : new int[] {LEAST, -1, 3, 7, 8, 9, 64, MOST}) {
            due("12 user " + part, x.kind(part, 0), UNKNOWN);
            due("12 used " + part, x.kind(0, part), UNKNOWN);
            due("12 both " + part, x.kind(part, part), UNKNOWN);
        }
        due("12 the first and the last", x.kind(0, 6), 1);
        due("12 the last and the first", x.kind(6, 0), NONE);
    }

    // ---- promise 13

    private static void ofKnowsSevenQuestions() {
        PassedDuties x = parts(2, "q", "p+P");
        x.give(1, 1);
        x.join(0, 1, 1);
        int[] want = {OUTSIDE, 0, 3, 0, 0, 2, 1, 0, OUTSIDE};
        for (int what = -1; what <= 7; what++) {
            due("13 of 0, " + what, x.of(0, what), want[what + 1]);
        }
        due("13 least", x.of(0, LEAST), OUTSIDE);
        due("13 most", x.of(0, MOST), OUTSIDE);
        int[] used = {OUTSIDE, 1, 1, 1, 1, 0, 0, 1, OUTSIDE};
        for (int what = -1; what <= 7; what++) {
            due("13 of 1, " + what, x.of(1, what), used[what + 1]);
        }
    }

    private static void ofKnowsThePartsThatAreThere() {
        PassedDuties x = parts(7, "p");
        x.leave(3);
        for (int part : new int[] {LEAST, -1, 3, 7, 8, 32, MOST}) {
            for (int what = -1; what <= 7; what++) {
                due("13 of " + part, x.of(part, what), UNKNOWN);
            }
        }
        due("13 the first", x.of(0, 1), 1);
        due("13 the last", x.of(6, 1), 1);
    }

    private static void ofTellsNoneToAllActs() {
        PassedDuties x = Check.with("p", "P", LETTERS, "pqrstu", "PQRSTU", "uU");
        int[][] want = {{1, 0, 0}, {0, 1, 0}, {63, 63, 63}, {63, 0, 0}, {0, 63, 0}, {32, 32, 32}};
        for (int part = 0; part < 6; part++) {
            x.part(part);
            for (int what = 1; what <= 3; what++) {
                due("13 of " + part + ", " + what, x.of(part, what), want[part][what - 1]);
            }
        }
    }

    private static void aClashNeedsBoth() {
        for (int act = 0; act < 6; act++) {
            for (int duty = 0; duty < 3; duty++) {
                for (int bar = 0; bar < 3; bar++) {
                    clashOf(act, SIGNS[duty], SIGNS[bar]);
                }
            }
        }
        PassedDuties x = parts(1, "pQ");
        due("13 the duty of one act and the bar of another", x.of(0, 3), 0);
    }

    private static void clashOf(int act, String dutySign, String barSign) {
        String duty = LETTERS.charAt(act) + dutySign;
        String bar = LETTERS.charAt(act + 6) + barSign;
        PassedDuties x = Check.with(duty + bar, duty, bar);
        x.part(0);
        due("13 clash of " + duty + bar, x.of(0, 3), 1 << act);
        x.give(0, 1);
        due("13 no clash of " + duty, x.of(0, 3), 0);
        x.give(0, 2);
        due("13 no clash of " + bar, x.of(0, 3), 0);
        x.part(1);
        x.join(0, 1, 0);
        due("13 clash of " + bar + " and what comes", x.of(0, 3), 1 << act);
        due("13 none of the one that is used", x.of(1, 3), 0);
    }

    private static void ofTellsNoneToSevenJoins() {
        PassedDuties x = parts(8, "p");
        for (int other = 1; other < 8; other++) {
            due("13 uses", x.of(0, 5), other - 1);
            due("13 is used", x.of(0, 6), 0);
            x.join(0, other, 3);
        }
        due("13 uses all others", x.of(0, 5), 7);
        for (int other = 1; other < 8; other++) {
            due("13 is used by", x.of(0, 6), other - 1);
            due("13 another is used by one", x.of(other, 6), 1);
            x.join(other, 0, 0);
        }
        due("13 all others use it", x.of(0, 6), 7);
        due("13 and it uses them", x.of(0, 5), 7);
        due("13 another uses one", x.of(7, 5), 1);
        x.join(0, 7, -1);
        due("13 uses one less", x.of(0, 5), 6);
        due("13 is used as before", x.of(0, 6), 7);
    }

    private static void namesByKindsUpTo1() {
        int[] want = {2, 2, 0, 0};
        for (int kind = 0; kind <= 3; kind++) {
            PassedDuties x = parts(3, "p");
            x.join(0, 1, kind);
            due("13 names by kind " + kind, x.of(0, 4), want[kind]);
            x.join(2, 0, 1);
            due("13 names behind one, by kind " + kind, x.of(2, 4), 1 + want[kind]);
            due("13 names of the one that is used", x.of(1, 4), 0);
        }
        PassedDuties x = parts(2, "p");
        due("13 names without joins", x.of(0, 4), 0);
        x.join(0, 1, 1);
        x.join(0, 1, -1);
        due("13 names behind a join that was", x.of(0, 4), 0);
    }

    private static void namesOfAllOthers() {
        for (int kind = 0; kind <= 1; kind++) {
            PassedDuties x = parts(8, "p");
            for (int part = 0; part < 8; part++) {
                x.join(part, (part + 1) % 8, kind);
            }
            for (int part = 0; part < 8; part++) {
                due("13 names in a ring, not itself", x.of(part, 4), 255 - (1 << part));
            }
            x.join(7, 0, 2);
            due("13 names of the first in a chain", x.of(0, 4), 254);
            due("13 names of the last but one", x.of(6, 4), 128);
            due("13 names of the last", x.of(7, 4), 0);
        }
    }

    private static void namesGoOnlyToThoseThatAreUsed() {
        PassedDuties x = parts(4, "p");
        x.join(1, 0, 0);
        x.join(2, 1, 1);
        x.join(3, 2, 2);
        due("13 names of one that uses none", x.of(0, 4), 0);
        due("13 names of its user", x.of(1, 4), 1);
        due("13 names of that one's user", x.of(2, 4), 3);
        due("13 names by a line", x.of(3, 4), 0);
        x.leave(1);
        due("13 names behind one that left", x.of(2, 4), 0);
    }

    // ---- promise 14

    private static void aReachGreaterThanTheKind() {
        for (int item = 0; item < 12; item++) {
            for (int reach = 1; reach <= 3; reach++) {
                reachByKinds(item, reach);
            }
        }
    }

    private static void reachByKinds(int item, int reach) {
        String own = item == 0 ? "q" : "p";
        PassedDuties x = parts(2, own, LETTERS.charAt(item) + SIGNS[reach - 1]);
        x.give(1, 1);
        due("14 without a join", x.held(0, item), 0);
        for (int kind = 0; kind <= 3; kind++) {
            x.join(0, 1, kind);
            int want = reach > kind ? reach : 0;
            due("14 reach " + reach + " by kind " + kind, x.held(0, item), want);
            due("14 in its own", x.held(1, item), reach);
        }
        x.join(0, 1, -1);
        due("14 without a join again", x.held(0, item), 0);
    }

    private static void itGoesOnWithThatReach() {
        int[] want = {3, 2, 1};
        for (int kind = 0; kind <= 2; kind++) {
            PassedDuties x = parts(8, "t", "pq+r*");
            x.give(7, 1);
            for (int part = 0; part < 7; part++) {
                x.join(part, part + 1, kind);
            }
            int come = 0;
            for (int item = 0; item < 3; item++) {
                come += x.held(0, item) != 0 ? 1 : 0;
                due("14 by seven joins", x.held(0, item), item + 1 > kind ? item + 1 : 0);
            }
            due("14 how many come", come, want[kind]);
            x.join(3, 4, 3);
            due("14 none by a tool between", x.of(0, 1), 16);
            due("14 as far as the tool", x.held(4, 2), 3);
        }
    }

    private static void theGreatestReachIsHeld() {
        String[] rising = {"q", "p", "p+", "p*"};
        for (int own = 0; own <= 3; own++) {
            for (int first = 0; first <= 3; first++) {
                for (int second = 0; second <= 3; second++) {
                    PassedDuties x = Check.with(rising);
                    x.part(first);
                    x.part(own);
                    x.part(second);
                    x.join(1, 0, 0);
                    x.join(1, 2, 1);
                    int comes = second > 1 ? second : 0;
                    int want = Math.max(own, Math.max(first, comes));
                    due("14 held of " + own + " " + first + " " + second, x.held(1, 0), want);
                }
            }
        }
    }

    private static void heldInARing() {
        PassedDuties x = parts(8, "q", "p+");
        for (int part = 0; part < 8; part++) {
            x.join(part, (part + 1) % 8, 1);
        }
        x.give(5, 1);
        for (int part = 0; part < 8; part++) {
            due("14 round to " + part, x.held(part, 0), 2);
        }
        x.give(5, 0);
        for (int part = 0; part < 8; part++) {
            due("14 nothing stays in the ring", x.held(part, 0), 0);
        }
    }

    private static void allGoesRoundARing() {
        for (int many = 2; many <= 8; many++) {
            PassedDuties x = new PassedDuties();
            for (int part = 0; part < many; part++) {
                x.part(Check.read(x, LETTERS.substring(part + 4, part + 5)));
            }
            for (int part = 0; part < many; part++) {
                x.join(part, (part + 1) % many, 0);
            }
            for (int part = 0; part < many; part++) {
                for (int item = 0; item < 12; item++) {
                    int want = item >= 4 && item < 4 + many ? 1 : 0;
                    due("14 all go round to " + part + " of " + many, x.held(part, item), want);
                }
            }
        }
    }

    private static void heldKnowsTwelveItems() {
        PassedDuties x = parts(1, "p+U*");
        due("14 item -1", x.held(0, -1), OUTSIDE);
        due("14 item 0", x.held(0, 0), 2);
        due("14 item 1", x.held(0, 1), 0);
        due("14 item 10", x.held(0, 10), 0);
        due("14 item 11", x.held(0, 11), 3);
        due("14 item 12", x.held(0, 12), OUTSIDE);
        for (int item : new int[] {LEAST, -12, 24, 64, MOST}) {
            due("14 item " + item, x.held(0, item), OUTSIDE);
        }
    }

    private static void heldKnowsThePartsThatAreThere() {
        PassedDuties x = parts(7, "p");
        x.leave(3);
        for (int part : new int[] {LEAST, -1, 3, 7, 8, 64, MOST}) {
            due("14 part " + part, x.held(part, 0), UNKNOWN);
            due("14 ahead of outside " + part, x.held(part, 12), UNKNOWN);
            due("14 ahead of outside below " + part, x.held(part, -1), UNKNOWN);
        }
        due("14 the first", x.held(0, 0), 1);
        due("14 the last", x.held(6, 0), 1);
    }

    // ---- promise 15

    private static void wayIs(String call, PassedDuties x, int part, int item, int... want) {
        due(call + ", below", x.way(part, item, -1), NONE);
        for (int place = 0; place < want.length; place++) {
            due(call + ", place " + place, x.way(part, item, place), want[place]);
        }
        due(call + ", behind", x.way(part, item, want.length), NONE);
        due(call + ", one farther", x.way(part, item, want.length + 1), NONE);
    }

    private static void wayOfItsOwn() {
        for (int part = 0; part < 8; part++) {
            PassedDuties x = parts(8, "p+");
            joinAll(x, 0);
            wayIs("15 its own", x, part, 0, part);
        }
        PassedDuties y = parts(2, "p", "p*");
        y.give(1, 1);
        y.join(0, 1, 2);
        wayIs("15 its own is less", y, 0, 0, 0, 1);
        y.join(0, 1, 3);
        wayIs("15 the greater one does not come", y, 0, 0, 0);
    }

    private static void wayHasItsPlacesAndNoMore() {
        PassedDuties x = parts(3, "q", "p*");
        x.give(2, 1);
        x.join(0, 1, 0);
        x.join(1, 2, 0);
        wayIs("15 three parts", x, 0, 0, 0, 1, 2);
        wayIs("15 two parts", x, 1, 0, 1, 2);
        wayIs("15 one part", x, 2, 0, 2);
        for (int place : new int[] {LEAST, -256, -2, 7, 8, 9, 256, MOST}) {
            due("15 place " + place, x.way(0, 0, place), NONE);
        }
    }

    private static void wayOfAllParts() {
        PassedDuties up = parts(8, "q", "p*");
        PassedDuties down = parts(8, "q", "p*");
        up.give(7, 1);
        down.give(0, 1);
        for (int part = 0; part < 7; part++) {
            up.join(part, part + 1, 2);
            down.join(part + 1, part, 2);
        }
        wayIs("15 up", up, 0, 0, 0, 1, 2, 3, 4, 5, 6, 7);
        wayIs("15 down", down, 7, 0, 7, 6, 5, 4, 3, 2, 1, 0);
    }

    private static void wayEndsThoughItsEndUsesOthers() {
        PassedDuties x = parts(4, "q", "p*");
        x.give(1, 1);
        x.join(0, 1, 0);
        x.join(1, 2, 0);
        x.join(2, 3, 0);
        wayIs("15 one that uses others", x, 1, 0, 1);
        wayIs("15 two, the last uses others", x, 0, 0, 0, 1);
        x.join(1, 0, 0);
        wayIs("15 two, the last uses the first", x, 0, 0, 0, 1);
        wayIs("15 not held by those others", x, 2, 0);
    }

    private static void wayEndsWhereTheReachIsHeld() {
        PassedDuties x = parts(4, "q", "p", "p+", "p*");
        x.give(1, 1);
        x.give(2, 2);
        x.give(3, 3);
        x.join(0, 1, 0);
        x.join(1, 2, 0);
        x.join(2, 3, 0);
        wayIs("15 to the net", x, 0, 0, 0, 1, 2, 3);
        x.join(2, 3, 3);
        wayIs("15 to the far one", x, 0, 0, 0, 1, 2);
        x.join(1, 2, 2);
        wayIs("15 to the near one", x, 0, 0, 0, 1);
        x.join(0, 1, 1);
        wayIs("15 to none", x, 0, 0);
    }

    private static void wayByJoinsThatLetItThrough() {
        for (int reach = 1; reach <= 3; reach++) {
            for (int kind = 0; kind <= 3; kind++) {
                PassedDuties x = parts(3, "q", "p" + SIGNS[reach - 1]);
                x.give(2, 1);
                x.join(0, 1, 0);
                x.join(1, 2, 0);
                x.join(0, 2, kind);
                String call = "15 reach " + reach + " by kind " + kind;
                if (reach > kind) {
                    wayIs(call, x, 0, 0, 0, 2);
                } else {
                    wayIs(call, x, 0, 0, 0, 1, 2);
                }
            }
        }
    }

    private static void wayOfFewestParts() {
        PassedDuties x = parts(8, "q", "p*");
        x.give(1, 1);
        x.give(7, 1);
        x.join(0, 2, 0);
        x.join(2, 3, 0);
        x.join(3, 1, 0);
        x.join(0, 6, 0);
        x.join(6, 7, 0);
        wayIs("15 three, by greater numbers", x, 0, 0, 0, 6, 7);
        x.join(2, 1, 2);
        wayIs("15 as few, by lesser numbers", x, 0, 0, 0, 2, 1);
        x.join(0, 7, 2);
        wayIs("15 two", x, 0, 0, 0, 7);
        x.join(0, 1, 1);
        wayIs("15 two, the lesser one", x, 0, 0, 0, 1);
        x.give(0, 1);
        wayIs("15 itself alone", x, 0, 0, 0);
    }

    private static void wayOfTheLesserNumber() {
        PassedDuties x = parts(8, "q", "p*");
        x.give(0, 1);
        x.give(7, 1);
        x.join(4, 1, 0);
        x.join(4, 2, 0);
        x.join(1, 7, 0);
        x.join(2, 0, 0);
        wayIs("15 lesser first, greater at the end", x, 4, 0, 4, 1, 7);
        x.join(1, 0, 0);
        wayIs("15 lesser at the end", x, 4, 0, 4, 1, 0);
        x.join(4, 1, 3);
        wayIs("15 the only one", x, 4, 0, 4, 2, 0);
        PassedDuties y = parts(8, "q", "p*");
        y.give(6, 1);
        y.give(7, 1);
        y.join(5, 3, 0);
        y.join(3, 2, 0);
        y.join(3, 1, 0);
        y.join(2, 6, 0);
        y.join(1, 7, 0);
        wayIs("15 unlike at the third", y, 5, 0, 5, 3, 1, 7);
    }

    private static void wayOfWhatIsNotHeld() {
        PassedDuties x = parts(2, "q", "p");
        x.give(1, 1);
        x.join(0, 1, 1);
        for (int place : new int[] {LEAST, -1, 0, 1, 2, MOST}) {
            due("15 not held, place " + place, x.way(0, 0, place), NONE);
        }
        x.join(0, 1, 0);
        wayIs("15 held", x, 0, 0, 0, 1);
    }

    private static void wayKnowsTwelveItems() {
        PassedDuties x = parts(1, "pU");
        for (int place : new int[] {-1, 0, 1}) {
            int want = place == 0 ? 0 : NONE;
            due("15 item -1", x.way(0, -1, place), OUTSIDE);
            due("15 item 0", x.way(0, 0, place), want);
            due("15 item 11", x.way(0, 11, place), want);
            due("15 item 12", x.way(0, 12, place), OUTSIDE);
            due("15 item least", x.way(0, LEAST, place), OUTSIDE);
            due("15 item most", x.way(0, MOST, place), OUTSIDE);
        }
    }

    private static void wayKnowsThePartsThatAreThere() {
        PassedDuties x = parts(7, "p");
        x.leave(3);
        for (int part : new int[] {LEAST, -1, 3, 7, 8, MOST}) {
            due("15 part " + part, x.way(part, 0, 0), UNKNOWN);
            due("15 ahead of outside " + part, x.way(part, 12, 0), UNKNOWN);
            due("15 ahead of a place below " + part, x.way(part, 0, -1), UNKNOWN);
        }
        due("15 the first", x.way(0, 0, 0), 0);
        due("15 the last", x.way(6, 0, 0), 6);
    }
}
