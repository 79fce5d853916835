import java.util.ArrayList;
import java.util.List;

/**
 * A bound that a sentence of the document names, tried on a new object. A second object hears the same calls but for
 * the refused ones: whatever is asked afterwards, both have to answer alike, for what is refused changes nothing.
 */
final class Bound {
    /** Of what comes behind that many calls nothing is promised, so no test may go there. */
    private static final int MOST_CALLS = 512;

    private static final List<Bound> NOT_ENDED = new ArrayList<>();

    private final String title;
    private final PicturesLent hearsAll = new PicturesLent();
    private final PicturesLent hearsTaken = new PicturesLent();
    private int calls = 0;
    private int refusals = 0;

    /** The sentence is quoted, so that a failure tells what was broken. */
    Bound(int promise, String sentence) {
        title = "promise " + promise + ", \"" + sentence + "\": ";
        NOT_ENDED.add(this);
    }

    /** Calls with ';' between: each with '=' and the answer that is due, or else one that may not be refused. */
    Bound run(String text) {
        for (String each : text.split(";")) {
            String[] halves = each.split("=");
            Call call = Call.of(halves[0]);
            int got = both(call);
            if (halves.length == 2) {
                Due.is(title + call, Call.number(halves[1].trim()), got);
            } else {
                Due.no(title + call + " refused", call.isRefusal(got));
            }
        }
        return this;
    }

    /** Calls with ';' between that all have to be refused. */
    Bound refused(String text) {
        for (String each : text.split(";")) {
            Call call = Call.of(each);
            count();
            refusals++;
            Due.yes(title + call + " refused", call.isRefusal(call.on(hearsAll)));
        }
        return this;
    }

    /** Calls with ';' between whose answers only have to be alike on both objects. */
    Bound alike(String text) {
        for (String each : text.split(";")) {
            both(Call.of(each));
        }
        return this;
    }

    /** Asks all that can be asked, as far as calls are left for it. */
    Bound alikeInAll() {
        if (calls + 3 >= MOST_CALLS) {
            return this;
        }
        for (String each : allQuestions()) {
            if (calls < MOST_CALLS) {
                both(Call.of(each));
            }
        }
        return this;
    }

    static void endAll() {
        for (Bound bound : NOT_ENDED) {
            if (bound.refusals > 0) {
                bound.alikeInAll();
            }
        }
        NOT_ENDED.clear();
    }

    private int both(Call call) {
        count();
        int got = call.on(hearsAll);
        Due.is(title + call + " behind what was refused", call.on(hearsTaken), got);
        return got;
    }

    private void count() {
        calls++;
        Due.yes(title + "within 512 calls", calls <= MOST_CALLS);
    }

    private List<String> allQuestions() {
        List<String> questions = new ArrayList<>(List.of("miles"));
        each(questions, "count", 9);
        // That of the next number, too: there must be none such on either object.
        int homes = hearsTaken.count(1) + 1;
        int works = hearsTaken.count(2) + 1;
        int wishes = hearsTaken.count(3) + 1;
        calls += 3;
        each(questions, "artist", 10);
        pairs(questions, "homed", homes, 5);
        pairs(questions, "told", works, 8);
        each(questions, "next", works);
        each(questions, "planned", works);
        pairs(questions, "wished", wishes, 3);
        each(questions, "rank", wishes);
        pairs(questions, "blame", works, 16);
        return questions;
    }

    private static void each(List<String> questions, String name, int size) {
        for (int i = 0; i < size; i++) {
            questions.add(name + " " + i);
        }
    }

    private static void pairs(List<String> questions, String name, int size, int whats) {
        for (int i = 0; i < size; i++) {
            each(questions, name + " " + i, whats);
        }
    }
}
