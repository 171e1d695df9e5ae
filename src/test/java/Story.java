import java.util.function.Consumer;
import java.util.function.ToLongFunction;

/**
 * Calls that can be told again on a new object. The document promises nothing of an object behind
 * its 512th call, so that many questions on one state need several objects that were told the same.
 */
final class Story {
    private static final int MOST_QUESTIONS = 150;

    private final Consumer<PassedDuties> calls;
    private PassedDuties told = null;
    private int asked = 0;

    Story(Consumer<PassedDuties> calls) {
        this.calls = calls;
    }

    PassedDuties tell() {
        PassedDuties x = new PassedDuties();
        calls.accept(x);
        return x;
    }

    /** The answer to a question that changes nothing. */
    long ask(ToLongFunction<PassedDuties> question) {
        if (told == null || asked == MOST_QUESTIONS) {
            told = tell();
            asked = 0;
        }
        asked++;
        return question.applyAsLong(told);
    }
}
