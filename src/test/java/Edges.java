import java.util.HashMap;
import java.util.Map;
import java.util.function.Supplier;

/** Checks calls, told as text, sentence by sentence of the document. */
final class Edges {
    private final Check check = new Check();
    private final Map<Supplier<EveryoneWins>, Picture> pictures = new HashMap<>();
    private String sentence = "";

    /** What the checks that follow are about. */
    void sentence(String told) {
        sentence = told;
    }

    void due(EveryoneWins x, String call, long want) {
        check.due(sentence + ": " + call, Calls.answer(x, call), want);
    }

    /** Of a text, for one. */
    void due(String of, EveryoneWins x, String call, long want) {
        check.due(sentence + ": [" + of + "] " + call, Calls.answer(x, call), want);
    }

    /** The same call with each of several last arguments: what is due of each. */
    void row(EveryoneWins x, String ahead, int from, long... wants) {
        for (int i = 0; i < wants.length; i++) {
            due(x, ahead + (from + i) + ")", wants[i]);
        }
    }

    /** On a new object: the answer is due, and all that calls can tell is as it would be without the call. */
    void changesNothing(Supplier<EveryoneWins> made, String call, long want) {
        due(made.get(), call, want);
        samePicture(made, call);
    }

    /** As changesNothing(), whatever the answer is. */
    void samePicture(Supplier<EveryoneWins> made, String call) {
        String otherwise = otherwise(made, call);
        check.due(sentence + ": " + call + " changes " + otherwise, otherwise.isEmpty() ? 0 : 1, 0);
    }

    /** That samePicture() would see what this call changes. */
    void otherPicture(Supplier<EveryoneWins> made, String call) {
        check.due(sentence + ": " + call + " changes nothing", otherwise(made, call).isEmpty() ? 0 : 1, 1);
    }

    private String otherwise(Supplier<EveryoneWins> made, String call) {
        Picture without = pictures.computeIfAbsent(made, Picture::new);
        return without.otherwise(new Picture(() -> {
            EveryoneWins x = made.get();
            Calls.answer(x, call);
            return x;
        }));
    }

    void end() {
        check.end();
    }
}
