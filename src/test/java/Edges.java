import java.io.IOException;
import java.util.function.Consumer;
import java.util.function.Supplier;
import java.util.stream.IntStream;

/** Asks for the edges that the document's sentences name; each answer counts for the sentence named last. */
final class Edges {
    static final Class<IndexOutOfBoundsException> INDEX = IndexOutOfBoundsException.class;
    static final Class<IllegalArgumentException> ARGUMENT = IllegalArgumentException.class;
    static final Class<IllegalStateException> STATE = IllegalStateException.class;
    static final Class<UnsupportedOperationException> UNSUPPORTED = UnsupportedOperationException.class;
    /** Numbers of rows and columns: the least and the greatest table, one line alone, and some between. */
    static final int[][] TABLES = {{1, 1}, {12, 10}, {1, 10}, {12, 1}, {4, 4}, {3, 5}};

    private final Answers answers = new Answers("EdgesTest");
    private final Sentences sentences;
    private String sentence = "";

    Edges() throws IOException {
        sentences = new Sentences();
    }

    /** The sentence of a promise that begins like this is tested from here on. */
    void promise(int number, String beginning) {
        sentence = sentences.beginning("Promise " + number + ": " + beginning);
    }

    void terms(String beginning) {
        sentence = sentences.beginning("Terms: " + beginning);
    }

    void due(String call, Object got, Object want) {
        sentences.count(sentence);
        answers.due("[" + sentence + "] " + call, got, want);
    }

    /** The call throws exactly this exception; neither what can be seen nor what is hidden changes by it. */
    void dueThrow(String call, Supplier<MergeGrid> made, Class<? extends RuntimeException> want,
            Consumer<MergeGrid> run) {
        MergeGrid grid = made.get();
        due(call, outcome(grid, run), want.getSimpleName());
        dueTwin(call, grid, made.get());
    }

    /** The two grids are the same, inside and outside; both are used up. */
    void dueTwin(String call, MergeGrid grid, MergeGrid twin) {
        due(call + " changes nothing that is seen", Look.at(grid), Look.at(twin));
        due(call + " changes nothing that is hidden", Look.hidden(grid), Look.hidden(twin));
    }

    static String outcome(MergeGrid grid, Consumer<MergeGrid> run) {
        try {
            run.accept(grid);
            return "no exception";
        } catch (RuntimeException e) {
            return e.getClass().getSimpleName();
        }
    }

    /** Numbers beside a range and far from it, 0, negative ones, and the least and the greatest int. */
    static int[] outside(int least, int most) {
        return IntStream.of(least - 1, most + 1, 0, -1, -most, 256, 65536, Integer.MIN_VALUE, Integer.MAX_VALUE)
                .filter(number -> number < least || number > most).distinct().toArray();
    }

    /** All characters but these few are none; the text of those that are some is answered. */
    static String charactersTaken(Supplier<MergeGrid> made, TakesCharacter call) {
        StringBuilder taken = new StringBuilder();
        MergeGrid grid = made.get();
        for (int sign = 0; sign <= Character.MAX_VALUE; sign++) {
            char character = (char) sign;
            if (!outcome(grid, g -> call.on(g, character)).equals("IllegalArgumentException")) {
                taken.append(character);
                grid = made.get();
            }
        }
        return taken.toString();
    }

    interface TakesCharacter {
        void on(MergeGrid grid, char character);
    }

    void end() {
        for (String bare : sentences.withoutAnswers()) {
            answers.due("a test of [" + bare + "]", "missing", "there");
        }
        answers.due("the document has sentences", sentences.size() > 200, true);
        answers.end();
    }
}
