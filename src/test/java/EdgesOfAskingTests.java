import java.util.List;
import java.util.function.Supplier;

/** What is asked changes nothing, but where it is told: every call that asks, in every state, for all that it tells of. */
public final class EdgesOfAskingTests {
    private static final Edges edges = new Edges();

    public static void main(String[] args) {
        edges.sentence("Terms: what is asked changes nothing");
        for (Supplier<EveryoneWins> made : List.of(States.NOTHING, States.SOME, States.FULL, States.TOLD)) {
            children(made);
            races(made);
            bests(made);
            edges.samePicture(made, "taken(0, 0)");
            edges.samePicture(made, "taken(6, 6)");
        }
        whatChangesIsSeen();
        edges.end();
    }

    /** Were Picture blind to something, no test by it could fail for that. */
    private static void whatChangesIsSeen() {
        edges.sentence("Picture");
        String[] calls = {"child(1)", "put(0, 0, 42)", "put(2, 1, 31)", "put(1, 2, 6)", "feed(1, 49, 0, 0, 0, 0)", "feed(1, 32, 0, 0, 0, 0)",
            "text()", "force(0)", "force(1)", "race(0, 0)", "enter(0, 0, 1)", "enter(1, 0, 6)", "enter(0, 1, 3)", "enter(1, 1, 0)",
            "film(0)", "film(1)", "film(2)", "film(3)", "image()", "back()", "sheet(0, 0, 5)", "sheet(0, 0, 6)", "sheet(1, 1, 2)",
            "sheet(2, 2, 7)", "sheet(2, -1, 0)", "sheet(3, 0, 0)", "cell(0, 0, 0)", "cell(0, 4, 126)", "cell(1, 2, 1235)",
            "cell(2, 6, 107)", "copy(2, 0, 2, 1, 1)", "childrenBy(2, 2, 0, 1)"};
        for (String call : calls) {
            edges.otherPicture(States.SOME, call);
        }
        for (String call : new String[] {"put(7, 0, 0)", "put(7, 2, 8)", "enter(5, 0, 254)", "enter(5, 1, 0)", "force(5)", "cell(0, 39, 0)",
            "cell(3, 39, 0)", "sheet(1, 1, 39)", "copy(2, 0, 2, 39, 1)", "image()", "back()", "film(3)"}) {
            edges.otherPicture(States.FULL, call);
        }
    }

    private static void children(Supplier<EveryoneWins> made) {
        for (int what = 0; what < 5; what++) {
            edges.samePicture(made, "count(" + what + ")");
        }
        for (int what = 0; what < 3; what++) {
            edges.samePicture(made, "told(0, " + what + ")");
            edges.samePicture(made, "asks(" + what + ", 1, 0, 6)");
            edges.samePicture(made, "asks(" + what + ", 1, -1, 3)");
        }
    }

    private static void races(Supplier<EveryoneWins> made) {
        for (int what = 0; what < 4; what++) {
            edges.samePicture(made, "card(1, " + what + ")");
            edges.samePicture(made, "day(" + what + ")");
            edges.samePicture(made, "day(" + (10 + what) + ")");
            edges.samePicture(made, "comes(1, " + what + ")");
            edges.samePicture(made, "does(" + what + ", 1)");
        }
    }

    private static void bests(Supplier<EveryoneWins> made) {
        for (String name : new String[] {"let", "spare", "drop", "order", "tie"}) {
            edges.samePicture(made, name + "(0)");
        }
        edges.samePicture(made, "needs(0, 1)");
        edges.samePicture(made, "needs(2, 6)");
        edges.samePicture(made, "drawn(5, 0)");
        edges.samePicture(made, "odds(5, 3, 1, 0)");
        for (int s = 0; s < 4; s++) {
            edges.samePicture(made, "judge(" + s + ")");
            edges.samePicture(made, "laws(" + s + ")");
            edges.samePicture(made, "kinds(" + s + ", 1, 0)");
            edges.samePicture(made, "quick(" + s + ", 1, 0)");
        }
    }
}
