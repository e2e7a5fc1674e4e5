import java.util.List;
import java.util.function.Supplier;

/** Boundary cases of promises 16 to 21, sentence by sentence: what would be best. */
public final class EdgesOfBestTests {
    private static final String[] ALL = {"let", "spare", "drop", "order", "tie"};
    private static final Edges edges = new Edges();

    public static void main(String[] args) {
        whatIsRefused();
        nothingThere();
        nothingToChange();
        asItIs();
        askedTwice();
        likeIsNotBetter();
        fewerCrossedIsBetterThanJoy();
        asManyCrossedAndMoreJoy();
        letOnlyLets();
        spareOnlySpares();
        letOfTheLast();
        spareOfTheLast();
        dropOfTheLast();
        dropKeepsNumbers();
        orderOfTheLast();
        orderOfFewer();
        orderOfEach();
        orderKeepsNumbers();
        tieOfTheLast();
        tieOfNone();
        firstOfLikes();
        needsTakes();
        needsOrMore();
        needsCountsFromNone();
        needsRefuses();
        edges.end();
    }

    private static EveryoneWins made(String law, int... speedLucks) {
        EveryoneWins x = Given.children(speedLucks);
        Given.law(x, law);
        return x;
    }

    private static void best(EveryoneWins x, String name, long found, long crossed, long joy) {
        edges.row(x, name + "(", 0, found, crossed, joy);
    }

    private static void whatIsRefused() {
        edges.sentence("Promises 16 to 20: -1000, what");
        for (String name : ALL) {
            for (String what : new String[] {"-1", "3", "MIN", "MAX"}) {
                edges.changesNothing(States.SOME, name + "(" + what + ")", -1000);
            }
            edges.changesNothing(States.NOTHING, name + "(3)", -1000);
            edges.changesNothing(States.FULL, name + "(-1)", -1000);
        }
    }

    private static void nothingThere() {
        edges.sentence("Promises 16 to 20: without CHILDREN, without RACES");
        for (String name : ALL) {
            best(new EveryoneWins(), name, -1, 0, 0);
        }
        edges.sentence("Promises 16 to 20: with CHILDREN, without RACES");
        for (String name : ALL) {
            best(Given.children(1, 2), name, -1, 2, -10);
        }
        edges.sentence("Promises 16 to 20: with RACES, without CHILDREN");
        for (String name : ALL) {
            EveryoneWins x = new EveryoneWins();
            for (int kind = 0; kind < 6; kind++) {
                x.race(10 * kind, 0);
            }
            best(x, name, -1, 0, 0);
        }
    }

    private static void nothingToChange() {
        edges.sentence("Promise 16: all are RUNNERS");
        EveryoneWins x = made("yards 0; worth 0 - 1; none 0;", 1, 2, 3);
        x.race(0, 7);
        x.race(10, 7);
        best(x, "let", -1, 1, -2);
        edges.sentence("Promise 16: no more can run than there are CHILDREN");
        EveryoneWins more = made("yards 0; worth runners; none 0;", 1, 2, 3);
        more.race(0, 7);
        more.race(50, 7);
        best(more, "let", -1, 1, 6);
        EveryoneWins one = made("yards 0; worth 10 - runners; none 0;", 1, 2);
        one.race(0, 1);
        best(one, "spare", -1, 1, 9);
        edges.sentence("Promise 17: nobody is a RUNNER");
        EveryoneWins y = made("yards 0; worth 0 - 1; none 0;", 1, 2, 3);
        y.race(0, 0);
        y.race(10, 0);
        best(y, "spare", -1, 3, 0);
        best(y, "drop", -1, 3, 0);
        best(y, "order", -1, 3, 0);
        best(y, "tie", -1, 3, 0);
    }

    private static void asItIs() {
        edges.sentence("What would be best: CROSSED, JOY as it is, if none is BETTER");
        EveryoneWins x = made("yards 0; worth 50; none 0 - 7;", 5000, 4000, 3000);
        x.race(0, 7);
        x.enter(0, 1, 3);
        for (String name : ALL) {
            best(x, name, -1, 0, 150);
        }
        EveryoneWins none = made("yards 0; worth 0 - 7; none 50;", 5000, 4000, 3000);
        for (String name : ALL) {
            best(none, name, -1, 3, 150);
        }
    }

    private static void askedTwice() {
        edges.sentence("What would be best is only thought: asked again it is the same");
        for (Supplier<EveryoneWins> made : List.of(States.SOME, States.FULL, States.TOLD)) {
            for (String name : ALL) {
                EveryoneWins x = made.get();
                long found = Calls.answer(x, name + "(0)");
                edges.due(x, name + "(0)", found);
                for (int what = 0; what < 3; what++) {
                    edges.samePicture(made, name + "(" + what + ")");
                }
            }
        }
    }

    private static void likeIsNotBetter() {
        edges.sentence("Terms: BETTER: as many CROSSED, as much JOY is not");
        EveryoneWins x = made("yards 0; worth 0; none 0;", 5000, 4000);
        x.race(0, 1);
        x.race(0, 1);
        best(x, "drop", -1, 1, 0);
        best(x, "order", -1, 1, 0);
        EveryoneWins y = made("yards 0; worth 0; none 0;", 5000, 4000);
        y.race(0, 3);
        y.race(10, 3);
        y.enter(0, 1, 2);
        y.enter(1, 1, 2);
        for (String name : ALL) {
            best(y, name, -1, 0, 0);
        }
    }

    private static void fewerCrossedIsBetterThanJoy() {
        edges.sentence("Terms: BETTER: fewer are CROSSED, though JOY is less");
        EveryoneWins x = made("yards 0; worth 0 - 99; none 99;", 5000, 4000);
        x.race(0, 1);
        x.race(0, 0);
        edges.row(x, "day(", 1, 1, 0);
        best(x, "let", 11, 0, -198);
        EveryoneWins y = made("yards 0; worth 0 - 99; none 99;", 5000, 4000);
        y.race(0, 3);
        best(y, "tie", 2, 0, -198);
        EveryoneWins z = made("yards 0; worth 50 - speed * 2; none 99;", 5000, 7000);
        z.race(0, 3);
        z.race(0, 3);
        edges.row(z, "day(", 1, 1, -90 - 90 + 99);
        // 1 of SPEED 70 is worth -90, 0 of SPEED 50 -50.
        best(z, "spare", 1, 0, -50 - 90);
        edges.sentence("Terms: BETTER: more CROSSED is not, though JOY is more");
        EveryoneWins w = made("yards 0; worth 0 - 99; none 99;", 5000);
        w.race(0, 1);
        for (String name : ALL) {
            best(w, name, -1, 0, -99);
        }
    }

    private static void asManyCrossedAndMoreJoy() {
        edges.sentence("Terms: BETTER: as many CROSSED, and JOY is 1 more");
        EveryoneWins x = made("yards 0; worth race; none 0;", 5000, 4000);
        x.race(0, 3);
        x.race(0, 0);
        edges.row(x, "day(", 1, 1, 0);
        best(x, "let", 11, 0, 1);
        EveryoneWins y = made("yards 0; worth speed = 40; none 0;", 5000, 4000);
        y.race(0, 3);
        best(y, "spare", 0, 1, 1);
        edges.sentence("Terms: not if JOY is 1 less");
        EveryoneWins z = made("yards 0; worth 0 - (speed = 40); none 0;", 5000, 4000);
        z.race(0, 3);
        best(z, "spare", -1, 1, 0);
        EveryoneWins w = made("yards 0; worth 0 - race; none 0;", 5000, 4000);
        w.race(0, 3);
        w.race(0, 3);
        w.enter(0, 1, 2);
        best(w, "drop", 1, 0, 0);
        Given.law(w, "yards 0; worth race; none 0;");
        best(w, "drop", -1, 0, 1);
    }

    private static void letOnlyLets() {
        edges.sentence("Promise 16: a CHILD that isn't a RUNNER; it runs, too");
        // It would be best to spare 0.
        EveryoneWins x = made("yards 0; worth 10 * (speed = 40); none 0;", 5000, 4000, 3000);
        x.race(0, 3);
        best(x, "let", -1, 2, 0);
        best(x, "spare", 0, 2, 10);
    }

    private static void spareOnlySpares() {
        edges.sentence("Promise 17: a RUNNER; without whom in it");
        EveryoneWins x = made("yards 0; worth 10; none 0;", 5000, 4000, 3000);
        x.race(0, 1);
        x.race(0, 0);
        best(x, "spare", -1, 2, 10);
        best(x, "let", 11, 1, 20);
        edges.sentence("Promise 17: as there are fewer RUNNERS, there may be ribbons FOR others");
        EveryoneWins egg = made("yards 0; worth 10; none 0;", 99, 98, 97);
        egg.race(20, 7);
        egg.enter(0, 1, 0);
        best(egg, "spare", 0, 2, 10);
        EveryoneWins cheer = made("yards 0; worth 10; none 0;", 99, 98, 97);
        cheer.race(50, 3);
        cheer.enter(0, 0, 1);
        best(cheer, "let", 1, 2, 10);
    }

    /** 8 CHILDREN of SPEED 10 .. 80; 6 RACES in which these run, by the CHILD of most SPEED won. */
    private static EveryoneWins allFull(String law, int runners) {
        EveryoneWins x = made(law, 1000, 2000, 3000, 4000, 5000, 6000, 7000, 8000);
        for (int r = 0; r < 6; r++) {
            x.race(0, runners);
        }
        return x;
    }

    private static void letOfTheLast() {
        edges.sentence("Promise 16: the last CHILD in the last RACE");
        EveryoneWins x = allFull("yards 0; worth (race = 5) * (speed = 80); none 0;", 0);
        for (int r = 0; r < 6; r++) {
            x.enter(r, 0, r < 5 ? 255 : 127);
            x.enter(r, 1, 0);
        }
        x.enter(5, 1, 1);
        edges.row(x, "day(", 1, 7, 0);
        best(x, "let", 57, 7, 1);
        edges.due(x, "card(5, 2)", 127);
    }

    private static void spareOfTheLast() {
        edges.sentence("Promise 17: the last CHILD in the last RACE");
        EveryoneWins x = allFull("yards 0; worth 0 - (race = 5) * (speed = 80); none 0;", 255);
        edges.row(x, "day(", 1, 7, -1);
        best(x, "spare", 57, 6, 0);
        edges.due(x, "card(5, 2)", 255);
    }

    private static void dropOfTheLast() {
        edges.sentence("Promise 18: the last RACE");
        EveryoneWins x = allFull("yards 0; worth 0 - (race = 5); none 0;", 255);
        best(x, "drop", 5, 7, 0);
        edges.due(x, "count(0)", 6);
        edges.sentence("Promise 18: the only RACE");
        EveryoneWins y = made("yards 0; worth 0 - 1; none 0;", 5000, 4000);
        y.race(0, 3);
        best(y, "drop", -1, 1, -1);
        y.enter(0, 0, 0);
        best(y, "drop", -1, 2, 0);
    }

    private static void dropKeepsNumbers() {
        edges.sentence("Promise 18: the RACES that are left are numbered as they are");
        EveryoneWins x = made("yards 0; worth race - 1; none 0;", 5000);
        x.race(0, 1);
        x.race(0, 1);
        x.race(0, 1);
        best(x, "drop", 0, 0, 1);
    }

    private static void orderOfTheLast() {
        edges.sentence("Promise 19: the last order of 720");
        EveryoneWins x = made("yards 0; worth (race + won = 5) * 10; none 0;", 5000);
        for (int r = 0; r < 6; r++) {
            x.race(0, 1);
        }
        edges.due(x, "day(2)", 0);
        best(x, "order", 654321, 0, 60);
        edges.sentence("Promise 19: the first order that is another");
        EveryoneWins y = made("yards 0; worth (race = 4) * (won = 5) * 10; none 0;", 5000);
        for (int r = 0; r < 6; r++) {
            y.race(0, 1);
        }
        best(y, "order", 123465, 0, 10);
    }

    private static void orderOfFewer() {
        edges.sentence("Promise 19: as many digits as RACES");
        EveryoneWins x = made("yards 0; worth race * (6 - won); none 0;", 5000);
        long[] orders = {-1, -1, 21, 321, 4321, 54321, 654321};
        for (int many = 0; many <= 6; many++) {
            edges.due(x, "order(0)", orders[many]);
            x.race(0, 1);
        }
    }

    private static void orderOfEach() {
        edges.sentence("Promise 19: each order can be found");
        for (int many = 2; many <= 6; many++) {
            orderOfEach("", many);
        }
    }

    /** Worth is 1 for each RACE that is run at its place. */
    private static void orderOfEach(String ahead, int many) {
        if (ahead.length() == many) {
            StringBuilder worth = new StringBuilder("0");
            for (int k = 0; k < many; k++) {
                worth.append("+(race=").append(ahead.charAt(k) - '1').append(")*(won=").append(k).append(")");
            }
            EveryoneWins x = made("yards 0;worth " + worth + ";none 0;", 5000);
            for (int r = 0; r < many; r++) {
                x.race(0, 1);
            }
            boolean asItIs = "123456".startsWith(ahead);
            best(x, "order", asItIs ? -1 : Integer.parseInt(ahead), 0, many);
        }
        for (char race = '1'; race < '1' + many; race++) {
            if (ahead.indexOf(race) < 0) {
                orderOfEach(ahead + race, many);
            }
        }
    }

    private static void orderKeepsNumbers() {
        edges.sentence("Promise 19: each RACE has its number, wherever it is run");
        EveryoneWins x = made("yards 0; worth (race = 0) * won; none 0;", 5000);
        for (int r = 0; r < 3; r++) {
            x.race(0, 1);
        }
        best(x, "order", 231, 0, 2);
    }

    private static void tieOfTheLast() {
        edges.sentence("Promise 20: 3 RIBBONS of the last RACE");
        EveryoneWins x = allFull("yards 0; worth (race = 5) * (speed = 60); none 0;", 255);
        for (int r = 0; r < 5; r++) {
            x.enter(r, 1, 3);
        }
        edges.row(x, "day(", 1, 5, 0);
        best(x, "tie", 53, 5, 1);
        edges.due(x, "card(5, 3)", 1);
    }

    private static void tieOfNone() {
        edges.sentence("Promise 20: RIBBONS 0");
        EveryoneWins x = made("yards 0; worth 0 - (race = 1); none 0;", 5000);
        x.race(0, 1);
        x.race(0, 1);
        best(x, "tie", 10, 0, 0);
        edges.sentence("Promise 20: RIBBONS as they are are not BETTER");
        x.enter(1, 1, 0);
        best(x, "tie", -1, 0, 0);
    }

    private static void firstOfLikes() {
        edges.sentence("What would be best: of like ones the first");
        EveryoneWins x = made("yards 0; worth 1; none 0;", 5000, 5000, 5000);
        x.race(0, 0);
        x.race(0, 0);
        best(x, "let", 0, 2, 1);
        EveryoneWins y = made("yards 0; worth 0 - won; none 0;", 5000, 5000);
        for (int r = 0; r < 3; r++) {
            y.race(0, 1);
        }
        best(y, "spare", 0, 1, -1);
        best(y, "drop", 0, 1, -1);
        best(y, "tie", 0, 1, -1);
        edges.sentence("What would be best: the best of all, not the first that is BETTER");
        EveryoneWins z = made("yards 0; worth race; none 0;", 5000);
        for (int r = 0; r < 6; r++) {
            z.race(0, 0);
        }
        best(z, "let", 50, 0, 5);
        EveryoneWins w = made("yards 0; worth 0 - race; none 0;", 5000);
        for (int r = 0; r < 6; r++) {
            w.race(0, 1);
        }
        best(w, "drop", 5, 0, -10);
        best(w, "spare", 50, 0, -10);
        best(w, "tie", 50, 0, -10);
    }

    private static void needsTakes() {
        edges.sentence("Promise 21: YARDS anyhow of 0 .. 99, the fewest; -1: none");
        for (int ahead : new int[] {0, 1, 50, 98, 99}) {
            EveryoneWins x = Given.children(100 * ahead, 0);
            x.race(0, 3);
            edges.due("" + ahead, x, "needs(1, 1)", ahead < 99 ? ahead + 1 : -1);
            EveryoneWins y = Given.children(0, 100 * ahead);
            y.race(0, 3);
            edges.due("" + ahead, y, "needs(0, 1)", ahead);
        }
        edges.sentence("Promise 21: wins of 0 .. 6");
        EveryoneWins six = Given.children(0, 1000);
        for (int r = 0; r < 6; r++) {
            edges.row(six, "needs(0, ", r, r == 0 ? 0 : 10, -1);
            six.race(0, 3);
        }
        edges.row(six, "needs(0, ", 0, 0, 10, 10, 10, 10, 10, 10);
        edges.sentence("Promise 21: one that isn't a RUNNER");
        EveryoneWins none = Given.children(0, 1000);
        none.race(0, 2);
        edges.row(none, "needs(0, ", 0, 0, -1);
        edges.sentence("Promise 21: without RACES");
        edges.row(Given.children(0), "needs(0, ", 0, 0, -1, -1, -1, -1, -1, -1);
        edges.sentence("Promise 21: of the last CHILD");
        EveryoneWins last = Given.children(7000, 0, 0, 0, 0, 0, 0, 0);
        last.race(0, 255);
        edges.due(last, "needs(7, 1)", 71);
    }

    private static void needsOrMore() {
        edges.sentence("Promise 21: WON wins or more");
        EveryoneWins x = Given.children(0, 1000);
        x.race(0, 3);
        x.race(0, 3);
        edges.due(x, "needs(0, 1)", 10);
        edges.sentence("Promise 21: what is won with fewer YARDS is the fewest, though more of them spoil it");
        EveryoneWins slow = Given.children(0, 3000);
        slow.race(40, 3);
        edges.row(slow, "needs(0, ", 0, 0, 0, -1);
    }

    private static void needsCountsFromNone() {
        edges.sentence("Promise 21: whatever YARDS anyhow it has now; these stay");
        for (int yards : new int[] {0, 9, 10, 11, 99}) {
            EveryoneWins x = Given.children(0, 1000);
            x.race(0, 3);
            x.put(0, 2, yards);
            edges.due(x, "needs(0, 1)", 10);
            edges.due(x, "told(0, 2)", yards);
        }
        edges.sentence("Promise 21: what the text tells counts");
        EveryoneWins x = made("yards 4; worth 0; none 0;", 0, 1000);
        x.race(0, 3);
        x.put(1, 2, 5);
        edges.due(x, "needs(0, 1)", 15);
        edges.sentence("Promise 21: together they are 99 at most");
        EveryoneWins bound = made("yards 99 * (speed = 0); worth 0; none 0;", 0, 9900, 9800);
        bound.race(0, 3);
        edges.due(bound, "needs(0, 1)", 0);
        bound.put(1, 2, 1);
        edges.due(bound, "needs(0, 1)", -1);
        edges.sentence("Promise 21: it changes nothing");
        for (int c = 0; c < 3; c++) {
            for (int wins = 0; wins <= 6; wins += 2) {
                edges.samePicture(States.SOME, "needs(" + c + ", " + wins + ")");
            }
            edges.samePicture(States.FULL, "needs(" + (c + 5) + ", 1)");
        }
    }

    private static void needsRefuses() {
        edges.sentence("Promise 21: -5, no such CHILD, is told ahead of -7");
        edges.changesNothing(States.NOTHING, "needs(0, 0)", -5);
        for (String c : new String[] {"-1", "3", "8", "MIN", "MAX"}) {
            edges.changesNothing(States.SOME, "needs(" + c + ", 0)", -5);
            edges.changesNothing(States.SOME, "needs(" + c + ", 7)", -5);
        }
        edges.changesNothing(States.FULL, "needs(8, 1)", -5);
        edges.sentence("Promise 21: -7, wins");
        for (String wins : new String[] {"-1", "7", "MIN", "MAX"}) {
            edges.changesNothing(States.SOME, "needs(1, " + wins + ")", -7);
        }
    }
}
