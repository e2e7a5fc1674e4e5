/** Promises 16 to 21: what would be best. */
public final class BestTests {
    private static final Check check = new Check();

    public static void main(String[] args) {
        promise16();
        promise17();
        promise18();
        promise19();
        promise19First();
        promise20();
        promise21();
        wrong();
        check.end();
    }

    private static void promise16() {
        EveryoneWins x = Given.children(4020, 5010, 330);
        x.race(0, 3);
        x.enter(0, 1, 2);
        x.race(22, 3);
        // As it is: B, A, then A in the EGG; C none. With C in the EGG it wins.
        check.due("as it is", x.day(2), 10 + 10 + 7 - 5);
        check.dueAll("let", new long[] {x.let(0), x.let(1), x.let(2)}, 12, 0, 30);
        x.race(22, 3);
        check.dueAll("let, the first of two", new long[] {x.let(0), x.let(1), x.let(2)}, 12, 0, 10 + 10 + 10 + 7);
        check.dueAll("RUNNERS stay", new long[] {x.card(0, 2), x.card(1, 2), x.card(2, 2)}, 3, 3, 3);
        x.enter(1, 0, 7);
        x.enter(2, 0, 7);
        x.enter(0, 0, 7);
        check.dueAll("all run", new long[] {x.let(0), x.let(1), x.let(2)}, -1, x.day(1), x.day(2));
        Given.law(x, "yards 0; worth runners; none 0;");
        check.dueAll("no more can run", new long[] {x.let(0), x.let(1), x.let(2)}, -1, 0, 12);
        EveryoneWins y = Given.children(4000, 5000);
        y.race(0, 0);
        y.race(0, 1);
        // Both may win as many: 1 in RACE 0, the least number that makes none CROSSED.
        check.dueAll("let B", new long[] {y.let(0), y.let(1), y.let(2)}, 1, 0, 20);
        y.enter(1, 1, 0);
        check.dueAll("of likes the first", new long[] {y.let(0), y.let(1), y.let(2)}, 0, 1, 5);
    }

    private static void promise17() {
        EveryoneWins x = Given.children(4000, 5000);
        x.race(0, 3);
        x.race(0, 3);
        check.dueAll("as it is", new long[] {x.day(1), x.day(2)}, 1, 10 + 7 - 5);
        check.dueAll("spare", new long[] {x.spare(0), x.spare(1), x.spare(2)}, 1, 0, 20);
        check.dueAll("RUNNERS stay", new long[] {x.card(0, 2), x.card(1, 2)}, 3, 3);
        x.enter(0, 1, 0);
        check.dueAll("in RACE 1", new long[] {x.spare(0), x.spare(1), x.spare(2)}, -1, 1, 5);
        Given.law(x, "yards 0; worth speed - 45; none -5;");
        check.dueAll("JOY 5 less 5", new long[] {x.day(1), x.day(2)}, 1, 0);
        check.dueAll("A would have less", new long[] {x.spare(0), x.spare(1), x.spare(2)}, -1, 1, 0);
        Given.law(x, "yards 0; worth 45 - speed; none -5;");
        check.dueAll("A would have more", new long[] {x.spare(0), x.spare(1), x.spare(2)}, 11, 1, 0);
    }

    private static void promise18() {
        EveryoneWins x = Given.children(4000, 5000);
        x.race(0, 3);
        x.enter(0, 1, 2);
        x.race(0, 1);
        x.race(0, 1);
        check.dueAll("all is worth something", new long[] {x.drop(0), x.drop(1), x.drop(2)}, -1, 0, 10 + 10 + 7 + 4);
        Given.law(x, "yards 0; worth 0 - 5 * race; none 0;");
        check.due("as it is", x.day(2), -15);
        check.dueAll("the dearest", new long[] {x.drop(0), x.drop(1), x.drop(2)}, 2, 0, -5);
        Given.law(x, "yards 0; worth 0 - 5; none 0;");
        check.dueAll("of likes the first", new long[] {x.drop(0), x.drop(1), x.drop(2)}, 1, 0, -15);
        x.enter(0, 0, 1);
        check.dueAll("also RACE 0", new long[] {x.drop(0), x.drop(1), x.drop(2)}, 0, 1, -10);
        check.due("none is gone", x.count(0), 3);
    }

    private static void promise19() {
        EveryoneWins x = Given.children(4000, 5000);
        x.race(0, 3);
        check.dueAll("one RACE", new long[] {x.order(0), x.order(1), x.order(2)}, -1, 1, 5);
        x.race(0, 2);
        Given.law(x, "yards 20 - won * 20; worth 10; none -5;");
        // As it is B wins both; if it has won RACE 1, A wins RACE 0.
        check.dueAll("as it is", new long[] {x.day(1), x.day(2)}, 1, 15);
        check.dueAll("order", new long[] {x.order(0), x.order(1), x.order(2)}, 21, 0, 20);
        x.race(0, 2);
        check.dueAll("of likes the first", new long[] {x.order(0), x.order(1), x.order(2)}, 213, 0, 30);
        check.dueAll("the day stays", new long[] {x.day(1), x.day(2)}, 1, 25);
    }

    /** Worth goes down by WON and up by the RACE: it is best to run the last one first. */
    private static void promise19First() {
        EveryoneWins x = Given.children(0);
        for (int r = 0; r < 6; r++) {
            x.race(0, 1);
        }
        Given.law(x, "yards 0; worth race * (6 - won); none 0;");
        check.due("as it is", x.day(2), 0 * 6 + 5 + 2 * 4 + 3 * 3 + 4 * 2 + 5);
        check.dueAll("order", new long[] {x.order(0), x.order(1), x.order(2)}, 654321, 0, 5 * 6 + 4 * 5 + 3 * 4 + 2 * 3 + 2);
        Given.law(x, "yards 0; worth (race = 4) * (won = 2); none 0;");
        check.dueAll("any with the fifth third", new long[] {x.order(0), x.order(1), x.order(2)}, 125346, 0, 1);
        Given.law(x, "yards 0; worth race + won; none 0;");
        check.dueAll("all alike", new long[] {x.order(0), x.order(1), x.order(2)}, -1, 0, 30);
    }

    private static void promise20() {
        EveryoneWins x = Given.children(4000, 5000, 300);
        x.race(0, 7);
        x.race(0, 7);
        check.due("as it is", x.day(2), 10 + 7 - 10);
        check.dueAll("tie", new long[] {x.tie(0), x.tie(1), x.tie(2)}, 3, 0, 30 + 7);
        check.dueAll("RIBBONS stay", new long[] {x.card(0, 3), x.card(1, 3)}, 1, 1);
        Given.law(x, "yards 0; worth -50; none 0;");
        x.enter(0, 0, 1);
        x.enter(1, 0, 1);
        check.dueAll("none in RACE 0", new long[] {x.tie(0), x.tie(1), x.tie(2)}, 0, 2, -50);
        x.enter(0, 1, 0);
        check.dueAll("nothing", new long[] {x.tie(0), x.tie(1), x.tie(2)}, -1, 2, -50);
        x.enter(1, 0, 7);
        x.enter(1, 1, 0);
        check.dueAll("in RACE 1", new long[] {x.tie(0), x.tie(1), x.tie(2)}, 13, 0, -150);
    }

    private static void promise21() {
        EveryoneWins x = Given.children(4000, 5000, 5000);
        x.race(0, 7);
        check.dueAll("needs of 0", new long[] {x.needs(0, 0), x.needs(0, 1), x.needs(0, 2)}, 0, 10, -1);
        check.dueAll("needs of 1", new long[] {x.needs(1, 0), x.needs(1, 1)}, 0, 0);
        check.due("behind one of less number", x.needs(2, 1), 1);
        x.put(0, 2, 77);
        check.due("counted from 0", x.needs(0, 1), 10);
        check.due("YARDS stay", x.told(0, 2), 77);
        x.put(0, 2, 0);
        x.race(40, 3);
        // SLOW: 0 less as many; 0 wins with none, and loses RACE 1 from 11 on, RACE 0 below 10.
        check.due("in both", x.needs(0, 2), 10);
        x.put(1, 0, 49);
        x.put(2, 0, 49);
        check.due("9 are enough", x.needs(0, 2), 9);
        x.put(0, 0, 0);
        check.due("49 are enough for both", x.needs(0, 2), 49);
        check.due("none is needed for one", x.needs(0, 1), 0);
        check.due("6 of 2", x.needs(0, 6), -1);
        EveryoneWins far = Given.children(0, 9900, 0);
        far.race(0, 3);
        far.race(0, 6);
        check.due("99 at the most", far.needs(0, 1), 99);
        check.due("99 aren't enough behind a less number", far.needs(2, 1), -1);
        check.due("no CHILD", x.needs(3, 0), -5);
        check.due("no CHILD -1", x.needs(-1, 7), -5);
        check.due("wins 7", x.needs(0, 7), -7);
        check.due("wins -1", x.needs(0, -1), -7);
    }

    private static void wrong() {
        EveryoneWins x = Given.children(4000);
        for (int what : new int[] {-1, 3, Integer.MAX_VALUE, Integer.MIN_VALUE}) {
            check.due("let(" + what + ")", x.let(what), -1000);
            check.due("spare(" + what + ")", x.spare(what), -1000);
            check.due("drop(" + what + ")", x.drop(what), -1000);
            check.due("order(" + what + ")", x.order(what), -1000);
            check.due("tie(" + what + ")", x.tie(what), -1000);
        }
        check.dueAll("without RACES", new long[] {x.let(0), x.let(1), x.let(2), x.spare(0), x.drop(0), x.order(0), x.tie(0)},
            -1, 1, -5, -1, -1, -1, -1);
    }
}
