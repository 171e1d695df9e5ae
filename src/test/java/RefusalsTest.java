import java.util.ArrayList;
import java.util.LinkedHashMap;
import java.util.List;
import java.util.Map;
import java.util.function.Consumer;
import java.util.function.ToLongFunction;

/**
 * Each call with numbers at, below and beyond every boundary, in several states: which refusal is
 * told first, and that those that are refused change nothing that other calls show.
 */
public final class RefusalsTest {
    private static final int UNKNOWN = -1001, OUTSIDE = -1002, STATE = -1003, FULL = -1004;
    private static final int NO_REFUSAL = 0;
    private static final int LEAST = Integer.MIN_VALUE, MOST = Integer.MAX_VALUE;
    private static final int[] NUMBERS = {LEAST, -1002, -2, -1, 0, 1, 2, 3, 4, 6, 7, 8, 9, 64, MOST};
    private static final int[] ITEMS = {LEAST, -2, -1, 0, 5, 6, 11, 12, 13, 64, MOST};
    private static final int[] ACTS = {LEAST, -1, 0, 5, 6, 7, 11, MOST};
    private static final int[] PLACES = {LEAST, -2, -1, 0, 1, 7, 8, 47, 48, 49, MOST};
    private static final int[] CODES = {LEAST, -1, 0, 10, 31, 32, 42, 112, 126, 127, 128, 368, MOST};
    private static final int REFUSED_TOGETHER = 60;
    private static final int ASKED_TOGETHER = 200;
    private static final Check check = new Check();

    /** What decides a refusal, told by the one who wrote the state's calls. */
    private record Known(int letters, boolean isTerms, boolean isLikeSome, int terms, int parts, int clashes) {
        boolean hasTerms(int number) {
            return number >= 0 && number < terms;
        }

        boolean hasPart(int number) {
            return number >= 0 && number < 8 && (parts >> number & 1) == 1;
        }
    }

    private record Call(String text, ToLongFunction<PassedDuties> made, int refusal) {
    }

    private final String state;
    private final Known known;
    private final Story story;
    private final Map<String, List<Call>> calls = new LinkedHashMap<>();
    private final List<Call> questions = new ArrayList<>();

    private RefusalsTest(String state, Known known, Consumer<PassedDuties> told) {
        this.state = state;
        this.known = known;
        this.story = new Story(told);
    }

    public static void main(String[] args) {
        new RefusalsTest("new", new Known(0, false, false, 0, 0, 0), x -> { }).run();
        new RefusalsTest("a page alone", new Known(2, true, false, 0, 0, 0),
                x -> Check.write(x, "p+")).run();
        new RefusalsTest("a page with a fault", new Known(3, false, false, 2, 0, 0),
                RefusalsTest::tellAFault).run();
        new RefusalsTest("some of all", new Known(1, true, false, 4, 0b10110, 2),
                RefusalsTest::tellSome).run();
        new RefusalsTest("all left", new Known(0, false, false, 1, 0, 0),
                RefusalsTest::tellAllLeft).run();
        new RefusalsTest("full, new terms on the page", new Known(24, true, false, 8, 255, 8),
                x -> tellFull(x, "p+q+r+s+t+u+P*Q*R*S*T*U*")).run();
        new RefusalsTest("full, a fault at the end", new Known(24, false, false, 8, 255, 8),
                x -> tellFull(x, "p+q+r+s+t+u+P*Q*R*S*T*U!")).run();
        new RefusalsTest("full, like terms on the page", new Known(2, true, true, 8, 255, 8),
                x -> tellFull(x, "Pp")).run();
        new RefusalsTest("full, an empty page", new Known(0, false, false, 8, 255, 8),
                x -> tellFull(x, "")).run();
        check.end();
    }

    private static void tellAFault(PassedDuties x) {
        Check.read(x, "p");
        Check.read(x, "q*");
        Check.write(x, "p+p");
    }

    private static void tellSome(PassedDuties x) {
        for (String text : new String[] {"p", "P*", "qQ", "r+"}) {
            x.part(Check.read(x, text));
        }
        x.part(0);
        x.join(4, 1, 2);
        x.join(1, 4, 1);
        x.join(2, 3, 0);
        x.join(0, 2, 0);
        x.leave(3);
        x.leave(0);
        x.letter('u');
    }

    private static void tellAllLeft(PassedDuties x) {
        x.part(Check.read(x, "pP"));
        x.part(0);
        x.join(0, 1, 3);
        x.leave(1);
        x.leave(0);
    }

    private static void tellFull(PassedDuties x, String page) {
        for (String text : new String[] {"pP", "qQ", "r*", "R", "s", "S+", "t", "uU*"}) {
            x.part(Check.read(x, text));
        }
        x.join(3, 2, 2);
        x.join(4, 5, 1);
        x.join(6, 7, 0);
        x.join(0, 1, 0);
        x.join(1, 0, 3);
        x.join(7, 6, 1);
        x.join(2, 5, 1);
        x.join(2, 4, 0);
        Check.write(x, page);
    }

    private void run() {
        theStateIsAsKnown();
        listTexts();
        listTerms();
        listParts();
        listWhatComes();
        listClashes();
        listQuestions();
        for (Map.Entry<String, List<Call>> group : calls.entrySet()) {
            theRefusalIsTheFirstAsTold(group.getValue());
            refusalsChangeNothing(group.getKey(), group.getValue());
        }
    }

    private void theStateIsAsKnown() {
        PassedDuties x = story.tell();
        check.due(state + ": letters", x.count(0), known.letters);
        check.due(state + ": terms", x.count(1), known.terms);
        check.due(state + ": parts", x.count(3), known.parts);
        check.due(state + ": clashes", x.count(5), known.clashes);
    }

    // ---- the calls, and the refusal of each

    private void list(String text, ToLongFunction<PassedDuties> made, int refusal) {
        String method = text.substring(0, text.indexOf(' '));
        calls.computeIfAbsent(method + " " + refusal, key -> new ArrayList<>())
                .add(new Call(text, made, refusal));
    }

    private void listTexts() {
        for (int code : CODES) {
            int refusal = code < 32 || code > 126 ? OUTSIDE : known.letters == 24 ? FULL : NO_REFUSAL;
            list("letter " + code, x -> x.letter(code), refusal);
        }
        int full = known.terms == 8 && !known.isLikeSome ? FULL : NO_REFUSAL;
        list("terms ", x -> x.terms(), known.isTerms ? full : STATE);
        list("blank ", x -> x.blank(), NO_REFUSAL);
        list("fault ", x -> x.fault(), NO_REFUSAL);
    }

    private void listTerms() {
        for (int one : NUMBERS) {
            for (int item : ITEMS) {
                int refusal = !known.hasTerms(one) ? UNKNOWN : outside(item, 0, 11);
                list("reach " + one + " " + item, x -> x.reach(one, item), refusal);
            }
            for (int other : NUMBERS) {
                for (int what : new int[] {LEAST, -1, 0, 1, 2, 3, MOST}) {
                    boolean both = known.hasTerms(one) && known.hasTerms(other);
                    int refusal = both ? outside(what, 0, 2) : UNKNOWN;
                    list("two " + one + " " + other + " " + what, x -> x.two(one, other, what), refusal);
                }
            }
        }
    }

    private void listParts() {
        for (int one : NUMBERS) {
            int full = known.parts == 255 ? FULL : NO_REFUSAL;
            list("part " + one, x -> x.part(one), known.hasTerms(one) ? full : UNKNOWN);
            boolean there = known.hasPart(one);
            list("leave " + one, x -> x.leave(one), there ? NO_REFUSAL : UNKNOWN);
            for (int other : NUMBERS) {
                int given = there && known.hasTerms(other) ? NO_REFUSAL : UNKNOWN;
                list("give " + one + " " + other, x -> x.give(one, other), given);
                int asked = there && known.hasPart(other) ? NO_REFUSAL : UNKNOWN;
                list("kind " + one + " " + other, x -> x.kind(one, other), asked);
                for (int kind : new int[] {LEAST, -2, -1, 0, 3, 4, MOST}) {
                    int joined = asked == UNKNOWN || one == other ? UNKNOWN : outside(kind, -1, 3);
                    list("join " + one + " " + other + " " + kind, x -> x.join(one, other, kind), joined);
                }
            }
        }
    }

    private void listWhatComes() {
        for (int part : NUMBERS) {
            boolean there = known.hasPart(part);
            for (int what : new int[] {LEAST, -1, 0, 6, 7, MOST}) {
                list("of " + part + " " + what, x -> x.of(part, what), there ? outside(what, 0, 6) : UNKNOWN);
            }
            for (int item : ITEMS) {
                int refusal = there ? outside(item, 0, 11) : UNKNOWN;
                list("held " + part + " " + item, x -> x.held(part, item), refusal);
                for (int place : new int[] {LEAST, -1, 0, 8, MOST}) {
                    list("way " + part + " " + item + " " + place, x -> x.way(part, item, place), refusal);
                }
            }
        }
    }

    private void listClashes() {
        for (int place : PLACES) {
            boolean there = place >= 0 && place < known.clashes;
            list("clash " + place, x -> x.clash(place), there ? NO_REFUSAL : UNKNOWN);
        }
        for (int part : NUMBERS) {
            for (int act : ACTS) {
                int refusal = known.hasPart(part) ? outside(act, 0, 5) : UNKNOWN;
                list("cause " + part + " " + act, x -> x.cause(part, act), refusal);
            }
        }
        for (int what : new int[] {LEAST, -1, 0, 7, 8, MOST}) {
            list("count " + what, x -> x.count(what), outside(what, 0, 7));
        }
        list("cure ", x -> x.cure(), NO_REFUSAL);
    }

    private static int outside(int number, int first, int last) {
        return number < first || number > last ? OUTSIDE : NO_REFUSAL;
    }

    // ---- what other calls show

    private void question(String text, ToLongFunction<PassedDuties> made) {
        questions.add(new Call(text, made, NO_REFUSAL));
    }

    private void listQuestions() {
        question("fault", x -> x.fault());
        question("digest", x -> x.digest());
        question("cure", x -> x.cure());
        for (int what = 0; what < 8; what++) {
            int a = what;
            question("count " + a, x -> x.count(a));
        }
        for (int one = 0; one < 8; one++) {
            for (int other = 0; other < 8; other++) {
                int a = one;
                int b = other;
                question("kind " + a + " " + b, x -> x.kind(a, b));
                question("of " + a + " " + b, x -> x.of(a, b));
                question("cause " + a + " " + b, x -> x.cause(a, b));
                question("looser " + a + " " + b, x -> x.two(a, b, 0));
                question("both " + a + " " + b, x -> x.two(a, b, 1));
                question("common " + a + " " + b, x -> x.two(a, b, 2));
            }
            for (int item = 0; item < 12; item++) {
                itemQuestions(one, item);
            }
        }
        for (int place = 0; place <= known.clashes; place++) {
            int a = place;
            question("clash " + a, x -> x.clash(a));
        }
    }

    private void itemQuestions(int number, int item) {
        question("reach " + number + " " + item, x -> x.reach(number, item));
        question("held " + number + " " + item, x -> x.held(number, item));
        for (int place = 0; place < 3; place++) {
            int a = place;
            question("way " + number + " " + item + " " + a, x -> x.way(number, item, a));
        }
    }

    /** Calls that change something, so that what is shown by them alone is looked at, too. */
    private static List<Call> changes() {
        List<Call> all = new ArrayList<>();
        all.add(new Call("letter", x -> x.letter('u'), NO_REFUSAL));
        all.add(new Call("terms", x -> x.terms(), NO_REFUSAL));
        all.add(new Call("part", x -> x.part(0), NO_REFUSAL));
        all.add(new Call("give", x -> x.give(1, 1), NO_REFUSAL));
        all.add(new Call("join", x -> x.join(1, 4, 0), NO_REFUSAL));
        all.add(new Call("leave", x -> x.leave(4), NO_REFUSAL));
        all.add(new Call("part again", x -> x.part(0), NO_REFUSAL));
        all.add(new Call("blank", x -> x.blank(), NO_REFUSAL));
        all.add(new Call("digest", x -> x.digest(), NO_REFUSAL));
        return all;
    }

    // ---- the checks

    private void theRefusalIsTheFirstAsTold(List<Call> group) {
        for (Call call : group) {
            long got = call.made.applyAsLong(story.tell());
            if (call.refusal == NO_REFUSAL) {
                check.holds(state + ": " + call.text + " is not refused", got > UNKNOWN);
            } else {
                check.due(state + ": " + call.text, got, call.refusal);
            }
        }
    }

    private void refusalsChangeNothing(String name, List<Call> group) {
        if (group.get(0).refusal == NO_REFUSAL) {
            return;
        }
        for (int from = 0; from < group.size(); from += REFUSED_TOGETHER) {
            List<Call> refused = group.subList(from, Math.min(group.size(), from + REFUSED_TOGETHER));
            for (int start = 0; start < questions.size(); start += ASKED_TOGETHER) {
                int end = Math.min(questions.size(), start + ASKED_TOGETHER);
                List<Call> asked = new ArrayList<>(questions.subList(start, end));
                asked.addAll(changes());
                showsTheSame(state + ": behind " + name, refused, asked);
            }
        }
    }

    private void showsTheSame(String where, List<Call> refused, List<Call> asked) {
        PassedDuties plain = story.tell();
        PassedDuties tried = story.tell();
        for (Call call : refused) {
            call.made.applyAsLong(tried);
        }
        for (Call call : asked) {
            long want = call.made.applyAsLong(plain);
            check.due(where + " " + call.text, call.made.applyAsLong(tried), want);
        }
    }
}
