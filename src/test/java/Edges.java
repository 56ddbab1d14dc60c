import java.io.IOException;
import java.nio.charset.StandardCharsets;
import java.nio.file.Files;
import java.nio.file.Path;
import java.util.Set;
import java.util.TreeSet;

/**
 * Tests that are each told of one sentence of the document (or a part of one) that names a
 * boundary case. A sentence that the document doesn't hold where it is said to is wrong, too.
 */
final class Edges {
    /** The section of the Terms; a promise's section has its own number. */
    static final int TERMS = 0;
    private static final int[] FAR = {Integer.MIN_VALUE, Integer.MAX_VALUE};

    interface Call {
        long of();
    }

    interface Asked {
        long of(DrawnBallots x);
    }

    interface AskedAt {
        long of(DrawnBallots x, int at);
    }

    private final Check check = new Check();
    private final String document;
    private final Set<Integer> told = new TreeSet<>();
    private final Set<String> sentences = new TreeSet<>();
    private String sentence = "";

    Edges() {
        try {
            document = Files.readString(Path.of("../shared/DOC.md"), StandardCharsets.UTF_8);
        } catch (IOException e) {
            throw new IllegalStateException("../shared/DOC.md can't be read", e);
        }
    }

    private String section(int promise) {
        String head = promise == TERMS ? "\n## Terms\n" : "\n## Promise " + promise + ":";
        int from = document.indexOf(head);
        int to = from < 0 ? -1 : document.indexOf("\n## ", from + head.length());
        return from < 0 || to < 0 ? "" : document.substring(from, to);
    }

    /** The test of one sentence of a promise or of the TERMS. */
    void edge(int promise, String words, Runnable test) {
        String where = promise == TERMS ? "Terms" : "promise " + promise;
        check.due("whether " + where + " says '" + words + "'", section(promise).contains(words), true);
        check.due("'" + words + "' of " + where + " is told anew", sentences.add(where + words), true);
        told.add(promise);
        sentence = where + ", '" + words + "': ";
        try {
            test.run();
        } catch (RuntimeException e) {
            check.due(sentence + "the test itself", "throws " + e, "an end");
        }
        sentence = "";
    }

    void due(String call, long got, long want) {
        check.due(sentence + call, got, want);
    }

    void due(String call, Call got, long want) {
        check.due(sentence + call, answer(got), Long.toString(want));
    }

    void due(String call, String got, String want) {
        check.due(sentence + call, got, want);
    }

    void none(String call, Call got) {
        check.due(sentence + call, answer(got), "throws NoSuchElementException");
    }

    void illegal(String call, Call got) {
        check.due(sentence + call, answer(got), "throws IllegalArgumentException");
    }

    /** What a call answers, or the very exception that it throws. */
    static String answer(Call got) {
        try {
            return Long.toString(got.of());
        } catch (RuntimeException e) {
            return "throws " + e.getClass().getSimpleName();
        }
    }

    /** A call on a Scene of its own throws NoSuchElementException and leaves all as it was. */
    void refused(String call, Asked got) {
        refused(call, got, "NoSuchElementException");
    }

    /** A call on a Scene of its own throws IllegalArgumentException and leaves all as it was. */
    void refusedIllegal(String call, Asked got) {
        refused(call, got, "IllegalArgumentException");
    }

    private void refused(String call, Asked got, String exception) {
        DrawnBallots x = Scene.made();
        check.due(sentence + call, answer(() -> got.of(x)), "throws " + exception);
        check.due(sentence + "all that is seen behind " + call, Scene.told(x), Scene.TOLD);
    }

    /** NoSuchElementException at the next below the least and the next above the greatest, and far off. */
    void refusedBeside(String call, int least, int greatest, AskedAt got) {
        beside(call, least, greatest, got, "NoSuchElementException");
    }

    /** IllegalArgumentException at the next below the least and the next above the greatest, and far off. */
    void refusedIllegalBeside(String call, int least, int greatest, AskedAt got) {
        beside(call, least, greatest, got, "IllegalArgumentException");
    }

    private void beside(String call, int least, int greatest, AskedAt got, String exception) {
        // Also the next but one: a test for the next alone would let that one through.
        for (int at : new int[] {least - 1, least - 2, greatest + 1, greatest + 2, FAR[0], FAR[1]}) {
            refused(call + " at " + at, x -> got.of(x, at), exception);
        }
        for (int at : new int[] {least, greatest}) {
            DrawnBallots x = Scene.made();
            boolean throwsIt = answer(() -> got.of(x, at)).startsWith("throws ");
            check.due(sentence + call + " at " + at + " throws", throwsIt, false);
        }
    }

    /** A question of a RACE: the least and the greatest are answered, those beside refused, and all without RACES. */
    void noRace(String call, AskedAt got) {
        refusedBeside(call + " of a RACE", 0, Scene.RACES - 1, got);
        noRaceAhead(call, got);
    }

    /** Where there are no RACES, one RACE, three: the RACE is refused whatever else is asked. */
    void noRaceAhead(String call, AskedAt got) {
        for (int race : new int[] {-1, 0, FAR[0], FAR[1]}) {
            none(call + " of race " + race + " of a new object", () -> got.of(new DrawnBallots(), race));
        }
        DrawnBallots one = Feeder.made("race 2 compare;ballots 3 0;");
        none(call + " of race 1 where there is one", () -> got.of(one, 1));
        none(call + " of race 2 where there is one", () -> got.of(one, 2));
        DrawnBallots three = Feeder.made("race 2 compare;race 2 poll;race 2 poll;ballots 3 0 0 0;");
        none(call + " of race 3 where there are three", () -> got.of(three, 3));
        none(call + " of race -1 where there are three", () -> got.of(three, -1));
    }

    /** Ends the test; each of these promises must have been told of. */
    void end(int... promises) {
        for (int promise : promises) {
            check.due("promise " + promise + " has a test", told.contains(promise), true);
        }
        System.out.println(sentences.size() + " sentences");
        check.end();
    }

    /** The answer of back() as a number. */
    static long number(boolean is) {
        return is ? 1 : 0;
    }
}
