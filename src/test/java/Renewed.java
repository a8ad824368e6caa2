import java.util.ArrayList;
import java.util.List;
import java.util.function.ToLongFunction;

/**
 * FlashNodes for as many calls as a test likes. An object is used for at most 512 calls, since what later calls answer
 * is free: behind these another one takes its place, to which the same was done.
 */
final class Renewed {
    static final int MOST_CALLS = 512;

    private final List<ToLongFunction<FlashNodes>> done = new ArrayList<>();
    private final List<Long> answers = new ArrayList<>();
    private FlashNodes x = new FlashNodes();
    private int calls = 0;

    /** How many calls there were that may have changed something: each object starts with these. */
    int changes() {
        return done.size();
    }

    /** The object for one call, and one that changes nothing. */
    FlashNodes asked() {
        if (calls >= MOST_CALLS) {
            renew();
        }
        calls++;
        return x;
    }

    /** One call that may change something. */
    long does(ToLongFunction<FlashNodes> call) {
        long answer = call.applyAsLong(asked());
        done.add(call);
        answers.add(answer);
        return answer;
    }

    private void renew() {
        if (done.size() >= MOST_CALLS) {
            throw new IllegalStateException("the test does too much to one object: " + done.size() + " calls");
        }
        x = new FlashNodes();
        calls = done.size();
        for (int i = 0; i < done.size(); i++) {
            long again = done.get(i).applyAsLong(x);
            if (again != answers.get(i)) {
                throw new IllegalStateException("done again, call " + i + " answers " + again + ", not " + answers.get(i));
            }
        }
    }
}
