import java.util.List;
import java.util.function.Supplier;

/** Boundary cases of promises 27 to 30, sentence by sentence: luck by lots, images. */
public final class EdgesOfLotsTests {
    private static final long NO = EveryoneWins.NO;
    private static final Edges edges = new Edges();

    public static void main(String[] args) {
        lotsOfTheEnds();
        lotsOfFewer();
        drawnOfNothing();
        drawnRefuses();
        drawnOnlyInThought();
        oddsOfOne();
        oddsOfSixty();
        oddsBeyondTheSeeds();
        oddsByMost();
        oddsInLowestTerms();
        oddsRefuses();
        imageOfNothing();
        imageOfAllFull();
        imageKeepsWhatItKeeps();
        imageDoesNotFollow();
        imageIsTheLast();
        backWithoutOne();
        backLeavesTheRest();
        backTwice();
        whatCameSinceIsNone();
        edges.end();
    }

    /** LUCK of CHILD c by a SEED, told by the lots alone. */
    private static long lot(long seed, int c) {
        long lot = seed + 1;
        for (int i = 0; i <= c; i++) {
            lot = lot * 48271 % 2147483647;
        }
        return lot % 100;
    }

    /** CHILD c alone is told of by JOY: its LUCK. */
    private static EveryoneWins teller(int children, int c) {
        int[] speedLucks = new int[children];
        speedLucks[c] = 100;
        EveryoneWins x = Given.children(speedLucks);
        Given.law(x, "yards 0; worth 0; none luck * speed;");
        return x;
    }

    private static void lotsOfTheEnds() {
        edges.sentence("Terms: LOTS: (SEED and 1) times 48271, modulo 2147483647; each further one likewise; SEED 0 .. 99999");
        for (int c = 0; c < 8; c++) {
            EveryoneWins x = teller(8, c);
            for (int seed : new int[] {0, 1, 2, 99, 44487, 44488, 50000, 99998, 99999}) {
                edges.due("LUCK of " + c, x, "drawn(" + seed + ", 1)", lot(seed, c));
                edges.due("LUCK of " + c, x, "drawn(" + seed + ", 0)", 8);
            }
        }
        edges.sentence("Terms: the first LOT of SEED 0 is 48271, the second 182605794");
        edges.due(teller(2, 0), "drawn(0, 1)", 71);
        edges.due(teller(2, 1), "drawn(0, 1)", 94);
    }

    private static void lotsOfFewer() {
        edges.sentence("Terms: of each CHILD, by numbers, whether it runs or not");
        EveryoneWins x = Given.children(0, 0, 0);
        x.race(20, 4);
        Given.law(x, "yards 0; worth luck; none 0;");
        edges.due(x, "drawn(0, 1)", 86);
        x.enter(0, 0, 2);
        edges.due(x, "drawn(0, 1)", 94);
        x.enter(0, 0, 1);
        edges.due(x, "drawn(0, 1)", 71);
        edges.sentence("Terms: LUCK by the SEED, not as it is");
        x.put(0, 1, 99);
        edges.due(x, "drawn(0, 1)", 71);
        edges.due(x, "day(2)", 99);
    }

    private static void drawnOfNothing() {
        edges.sentence("Promise 27: without CHILDREN, without RACES");
        edges.row(new EveryoneWins(), "drawn(99999, ", 0, 0, 0);
        edges.row(Given.children(0, 0), "drawn(99999, ", 0, 2, -10);
    }

    private static void drawnRefuses() {
        edges.sentence("Promise 27: -1000, SEED");
        for (String seed : new String[] {"-1", "100000", "MIN", "MAX"}) {
            edges.changesNothing(States.SOME, "drawn(" + seed + ", 0)", -1000);
            edges.changesNothing(States.NOTHING, "drawn(" + seed + ", 1)", -1000);
        }
        edges.sentence("Promise 27: -1000, what");
        for (String what : new String[] {"-1", "2", "MIN", "MAX"}) {
            edges.changesNothing(States.SOME, "drawn(0, " + what + ")", -1000);
            edges.changesNothing(States.FULL, "drawn(99999, " + what + ")", -1000);
        }
    }

    private static void drawnOnlyInThought() {
        edges.sentence("Promises 27, 28: in thought: nothing is changed");
        for (Supplier<EveryoneWins> made : List.of(States.SOME, States.FULL, States.TOLD)) {
            for (int what = 0; what < 2; what++) {
                edges.samePicture(made, "drawn(0, " + what + ")");
                edges.samePicture(made, "drawn(99999, " + what + ")");
                edges.samePicture(made, "odds(0, 1, 0, " + what + ")");
                edges.samePicture(made, "odds(99999, 60, 8, " + what + ")");
            }
        }
    }

    private static int good(int seed, int seeds) {
        int good = 0;
        for (int i = 0; i < seeds; i++) {
            good += lot(seed + i, 1) > lot(seed + i, 0) ? 1 : 0;
        }
        return good;
    }

    private static void fraction(EveryoneWins x, int seed, int seeds, int most, long above, long below) {
        long common = seeds;
        while (above % common != 0 || below % common != 0) {
            common--;
        }
        edges.row(x, "odds(" + seed + ", " + seeds + ", " + most + ", ", 0, above / common, below / common);
    }

    private static void oddsOfOne() {
        edges.sentence("Promise 28: of 1 seed");
        EveryoneWins x = Given.eggOfTwo();
        for (int seed = 0; seed < 40; seed++) {
            fraction(x, seed, 1, 0, good(seed, 1), 1);
            edges.due(x, "drawn(" + seed + ", 0)", 1 - good(seed, 1));
        }
    }

    private static void oddsOfSixty() {
        edges.sentence("Promise 28: of 1 .. 60 seeds, SEED and each 1 more");
        EveryoneWins x = Given.eggOfTwo();
        for (int seeds = 1; seeds <= 60; seeds++) {
            fraction(x, 0, seeds, 0, good(0, seeds), seeds);
            fraction(x, 99, seeds, 0, good(99, seeds), seeds);
        }
    }

    private static void oddsBeyondTheSeeds() {
        edges.sentence("Promise 28: they may pass 99999");
        EveryoneWins x = Given.eggOfTwo();
        for (int seed = 99930; seed <= 99999; seed++) {
            fraction(x, seed, 60, 0, good(seed, 60), 60);
        }
        fraction(x, 99999, 1, 0, good(99999, 1), 1);
        fraction(x, 99999, 2, 0, good(99999, 2), 2);
    }

    private static void oddsByMost() {
        edges.sentence("Promise 28: CROSSED is most or fewer, most 0 .. 8");
        for (int crossed = 0; crossed <= 8; crossed++) {
            EveryoneWins x = Given.children(1, 2, 3, 4, 5, 6, 7, 8);
            for (int c = crossed; c < 8; c++) {
                if (c - crossed < 5) {
                    x.race(0, 1 << c);
                }
            }
            if (crossed < 3) {
                x.race(0, 255 & -(1 << crossed + 5));
                x.enter(5, 1, 3);
            }
            edges.due(x, "day(1)", crossed);
            for (int most = 0; most <= 8; most++) {
                fraction(x, 7, 10, most, crossed <= most ? 10 : 0, 10);
            }
        }
    }

    private static void oddsInLowestTerms() {
        edges.sentence("Promise 28: in lowest terms: none of so many is 0 of 1, all are 1 of 1");
        for (int seeds : new int[] {1, 2, 59, 60}) {
            edges.row(Given.children(0), "odds(0, " + seeds + ", 0, ", 0, 0, 1);
            edges.row(Given.children(0), "odds(0, " + seeds + ", 1, ", 0, 1, 1);
            edges.row(new EveryoneWins(), "odds(0, " + seeds + ", 0, ", 0, 1, 1);
        }
    }

    private static void oddsRefuses() {
        edges.sentence("Promise 28: NO, none such");
        for (String seed : new String[] {"-1", "100000", "MIN", "MAX"}) {
            edges.changesNothing(States.SOME, "odds(" + seed + ", 1, 0, 0)", NO);
        }
        for (String seeds : new String[] {"-1", "0", "61", "MIN", "MAX"}) {
            edges.changesNothing(States.SOME, "odds(0, " + seeds + ", 0, 1)", NO);
        }
        for (String most : new String[] {"-1", "9", "MIN", "MAX"}) {
            edges.changesNothing(States.SOME, "odds(0, 1, " + most + ", 0)", NO);
        }
        for (String part : new String[] {"-1", "2", "MIN", "MAX"}) {
            edges.changesNothing(States.SOME, "odds(0, 1, 0, " + part + ")", NO);
        }
        edges.changesNothing(States.NOTHING, "odds(0, 0, 0, 0)", NO);
        edges.changesNothing(States.FULL, "odds(0, 61, 8, 1)", NO);
    }

    private static void imageOfNothing() {
        edges.sentence("Promise 29: of nothing");
        EveryoneWins x = new EveryoneWins();
        edges.due(x, "image()", 0);
        edges.due(x, "back()", 0);
        x.child(1);
        x.race(0, 1);
        edges.due(x, "back()", 0);
        edges.row(x, "count(", 0, 0, 0, 1, 0, 0);
        edges.due(x, "told(0, 0)", -5);
        edges.due(x, "card(0, 0)", -6);
        edges.sentence("Promise 29: CHILDREN alone, RACES alone");
        EveryoneWins y = Given.children(1, 2);
        edges.due(y, "image()", 0);
        y.race(0, 3);
        edges.due(y, "back()", 0);
        edges.row(y, "count(", 0, 0, 2);
        EveryoneWins z = new EveryoneWins();
        z.race(0, 0);
        edges.due(z, "image()", 1);
        z.child(1);
        edges.due(z, "back()", 1);
        edges.row(z, "count(", 0, 1, 0);
    }

    private static void imageOfAllFull() {
        edges.sentence("Promise 29: of all full");
        EveryoneWins x = States.FULL.get();
        edges.due(x, "image()", 6);
        for (int c = 0; c < 8; c++) {
            for (int what = 0; what < 3; what++) {
                x.put(c, what, (x.told(c, what) + 50) % 100);
            }
        }
        for (int r = 0; r < 6; r++) {
            x.enter(r, 0, 255 - x.card(r, 2));
            x.enter(r, 1, 3 - x.card(r, 3));
        }
        x.force(5);
        edges.due(x, "back()", 6);
        EveryoneWins y = States.FULL.get();
        edges.row(x, "count(", 0, 6, 8, 6, 4, 160);
        for (int c = 0; c < 8; c++) {
            edges.row(x, "told(" + c + ", ", 0, y.told(c, 0), y.told(c, 1), y.told(c, 2));
        }
        for (int r = 0; r < 6; r++) {
            edges.row(x, "card(" + r + ", ", 0, y.card(r, 0), y.card(r, 1), y.card(r, 2), y.card(r, 3));
        }
    }

    /** Each thing that AN IMAGE keeps, changed alone, is as it was. */
    private static void imageKeepsWhatItKeeps() {
        edges.sentence("Terms: AN IMAGE keeps each of these");
        String[][] changes = {{"put(1, 0, 77)", "told(1, 0)"}, {"put(1, 1, 77)", "told(1, 1)"}, {"put(1, 2, 77)", "told(1, 2)"},
            {"enter(1, 0, 2)", "card(1, 2)"}, {"enter(1, 1, 3)", "card(1, 3)"}, {"force(0)", "count(3)"},
            {"child(77)", "count(1)"}, {"race(33, 0)", "count(0)"}};
        for (String[] change : changes) {
            EveryoneWins x = States.SOME.get();
            long was = Calls.answer(x, change[1]);
            edges.due(x, "image()", 2);
            Calls.answer(x, change[0]);
            edges.due(change[0], x, change[1], Calls.answer(x, change[1]));
            edges.due(change[0], x, "back()", 2);
            edges.due(change[0], x, change[1], was);
        }
    }

    private static void imageDoesNotFollow() {
        edges.sentence("Promise 29: an image changes nothing else");
        Supplier<EveryoneWins> kept = () -> {
            EveryoneWins x = States.SOME.get();
            x.image();
            return x;
        };
        edges.changesNothing(kept, "image()", 2);
        edges.sentence("Promise 29: THE IMAGE stays when all else changes");
        EveryoneWins x = kept.get();
        x.put(0, 0, 9);
        edges.due(x, "back()", 2);
        edges.due(x, "told(0, 0)", 41);
        x.put(0, 0, 8);
        edges.due(x, "back()", 2);
        edges.due(x, "told(0, 0)", 41);
    }

    private static void imageIsTheLast() {
        edges.sentence("Promise 29: another image takes the place of the one");
        EveryoneWins x = Given.children(1000);
        edges.due(x, "image()", 0);
        x.put(0, 0, 20);
        x.race(0, 1);
        edges.due(x, "image()", 1);
        x.put(0, 0, 30);
        edges.due(x, "back()", 1);
        edges.due(x, "told(0, 0)", 20);
        edges.due(x, "count(0)", 1);
    }

    private static void backWithoutOne() {
        edges.sentence("Promise 30: STATE, there is none");
        edges.changesNothing(States.NOTHING, "back()", EveryoneWins.STATE);
        edges.changesNothing(States.TOLD, "back()", EveryoneWins.STATE);
        EveryoneWins x = States.TOLD.get();
        edges.due(x, "back()", EveryoneWins.STATE);
        edges.due(x, "back()", EveryoneWins.STATE);
        edges.due(x, "image()", 3);
        edges.due(x, "back()", 3);
    }

    private static void backLeavesTheRest() {
        edges.sentence("Promise 30: TEXTS, THE TAPE, SHEETS, KIND, MORE are not kept: they stay");
        EveryoneWins x = Given.children(4020);
        x.race(25, 1);
        edges.due(x, "image()", 1);
        edges.due(x, "count(2)", 1);
        Given.text(x, "yards 0; worth 7; none 0;");
        x.force(1);
        Given.tape(x, "yards 0; worth");
        Given.sheet(x, 0, 2, 1);
        edges.due(x, "back()", 1);
        edges.row(x, "count(", 0, 1, 1, 2, 0, 14);
        edges.row(x, "card(0, ", 0, 2, 5, 1, 1);
        edges.due(x, "judge(0)", -1);
        edges.due(x, "force(1)", 0);
        edges.due(x, "asks(1, 0, -1, 0)", 7);
        edges.due(x, "text()", -114);
    }

    private static void backTwice() {
        edges.sentence("Promise 30: THE IMAGE stays by it");
        EveryoneWins x = States.SOME.get();
        edges.due(x, "back()", 1);
        edges.row(x, "count(", 0, 1, 2, 3, 0);
        edges.row(x, "told(1, ", 0, 50, 10, 4);
        edges.row(x, "card(0, ", 0, 0, 0, 3, 1);
        edges.due(x, "put(1, 2, 44)", 4);
        edges.due(x, "child(0)", 2);
        edges.due(x, "back()", 1);
        edges.row(x, "count(", 0, 1, 2, 3, 0);
        edges.row(x, "told(1, ", 0, 50, 10, 4);
    }

    private static void whatCameSinceIsNone() {
        edges.sentence("Promise 30: RACES, CHILDREN that came since are none");
        EveryoneWins x = States.FULL.get();
        edges.due(x, "back()", 5);
        edges.row(x, "count(", 0, 5, 7, 6, 5, 160);
        edges.due(x, "told(7, 0)", -5);
        edges.due(x, "put(7, 0, 0)", -5);
        edges.due(x, "needs(7, 0)", -5);
        edges.due(x, "does(7, 0)", -1005);
        edges.due(x, "day(17)", -1000);
        edges.due(x, "card(5, 0)", -6);
        edges.due(x, "comes(5, 0)", -6);
        edges.due(x, "does(0, 5)", -1006);
        edges.due(x, "taken(5, 0)", -11);
        edges.due(x, "taken(13, 6)", -11);
        edges.due(x, "enter(0, 0, 128)", -7);
        edges.due(x, "race(0, 128)", EveryoneWins.BAD);
        edges.sentence("Promise 30: there is room for others");
        edges.due(x, "child(9)", 7);
        edges.due(x, "race(0, 128)", 5);
        edges.due(x, "child(9)", EveryoneWins.FULL);
        edges.due(x, "race(0, 0)", EveryoneWins.FULL);
        edges.row(x, "told(7, ", 0, 0, 9, 0);
        edges.row(x, "card(5, ", 0, 0, 0, 128, 1);
        edges.due(x, "taken(5, 5)", -13);
        edges.due(x, "taken(5, 0)", 5);
    }
}
