/** Promises 10 to 15: races. */
public final class RacesTests {
    private static final Check check = new Check();

    public static void main(String[] args) {
        promise10();
        promise11and12();
        promise13();
        promise14();
        promise14Yards();
        promise15();
        promise15ByLaw();
        forHowMany();
        check.end();
    }

    private static void promise10() {
        EveryoneWins x = new EveryoneWins();
        check.due("of no CHILDREN", x.race(1, 1), EveryoneWins.BAD);
        x.child(0);
        x.child(0);
        x.child(0);
        check.due("kindMore -1", x.race(-1, 0), EveryoneWins.BAD);
        check.due("kindMore 60", x.race(60, 0), EveryoneWins.BAD);
        check.due("who 8", x.race(0, 8), EveryoneWins.BAD);
        check.due("who -1", x.race(0, -1), EveryoneWins.BAD);
        check.due("who MIN", x.race(0, Integer.MIN_VALUE), EveryoneWins.BAD);
        int[] kindMores = {0, 19, 27, 30, 45, 59};
        for (int r = 0; r < 6; r++) {
            check.due("race " + r, x.race(kindMores[r], r), r);
            check.dueAll("card of " + r, new long[] {x.card(r, 0), x.card(r, 1), x.card(r, 2), x.card(r, 3)},
                kindMores[r] / 10, kindMores[r] % 10, r, 1);
        }
        check.due("a seventh", x.race(0, 7), EveryoneWins.FULL);
        check.due("a bad seventh", x.race(0, 8), EveryoneWins.BAD);
        check.due("six stay", x.count(0), 6);
    }

    private static void promise11and12() {
        EveryoneWins x = Given.children(0, 0, 0);
        x.race(0, 5);
        x.race(11, 0);
        check.due("enter RUNNERS", x.enter(0, 0, 7), 5);
        check.due("enter RUNNERS again", x.enter(0, 0, 0), 7);
        check.due("enter RIBBONS", x.enter(0, 1, 3), 1);
        check.due("enter RIBBONS again", x.enter(0, 1, 0), 3);
        check.dueAll("card 0", new long[] {x.card(0, 0), x.card(0, 1), x.card(0, 2), x.card(0, 3)}, 0, 0, 0, 0);
        check.dueAll("card 1", new long[] {x.card(1, 0), x.card(1, 1), x.card(1, 2), x.card(1, 3)}, 1, 1, 0, 1);
        check.due("enter: no RACE 2", x.enter(2, 0, 0), -6);
        check.due("enter: no RACE -1", x.enter(-1, 5, 99), -6);
        check.due("enter: what 2", x.enter(0, 2, 0), -7);
        check.due("enter: what -1", x.enter(0, -1, 0), -7);
        check.due("enter: RUNNERS 8", x.enter(0, 0, 8), -7);
        check.due("enter: RUNNERS -1", x.enter(0, 0, -1), -7);
        check.due("enter: RIBBONS 4", x.enter(0, 1, 4), -7);
        check.due("enter: RIBBONS -1", x.enter(0, 1, -1), -7);
        check.due("card: no RACE 2", x.card(2, 0), -6);
        check.due("card: no RACE -1", x.card(-1, 4), -6);
        check.due("card: what 4", x.card(0, 4), -7);
        check.due("card: what -1", x.card(0, -1), -7);
        check.due("unchanged", x.card(0, 2) + x.card(0, 3), 0);
        for (int c = 3; c < 8; c++) {
            x.child(0);
        }
        check.due("all eight", x.enter(0, 0, 255), 0);
        check.due("nine", x.enter(0, 0, 256), -7);
    }

    private static long[] line(EveryoneWins x, int r) {
        long[] line = new long[8];
        for (int k = 0; k < 8; k++) {
            line[k] = x.comes(r, k);
        }
        return line;
    }

    private static void promise13() {
        EveryoneWins x = Given.children(4020, 5010, 330, 9999, 4020);
        x.race(0, 31);
        x.race(0, 21);
        x.race(40, 31);
        x.race(0, 0);
        check.dueAll("FLAT", line(x, 0), 3, 1, 0, 4, 2, -1, -1, -1);
        check.dueAll("some of them", line(x, 1), 0, 4, 2, -1, -1, -1, -1, -1);
        check.dueAll("SLOW", line(x, 2), 2, 3, 0, 4, 1, -1, -1, -1);
        check.dueAll("nobody", line(x, 3), -1, -1, -1, -1, -1, -1, -1, -1);
        // On the day 0 wins RACE 0, and 4 would be ahead of it in RACE 1.
        x.enter(0, 0, 17);
        Given.law(x, "yards 60 - won * 60; worth 0; none 0;");
        check.dueAll("as a first RACE, though another is ahead", line(x, 1), 0, 4, 2, -1, -1, -1, -1, -1);
        check.dueAll("0 wins RACES 0 and 2, 4 wins RACE 1", new long[] {x.day(10), x.day(14)}, 2, 1);
        check.dueAll("also after a day", line(x, 1), 0, 4, 2, -1, -1, -1, -1, -1);
        check.due("no RACE 4", x.comes(4, 0), -6);
        check.due("no RACE -1", x.comes(-1, 8), -6);
        check.due("k 8", x.comes(0, 8), -7);
        check.due("k -1", x.comes(0, -1), -7);
    }

    private static long[] scores(EveryoneWins x, int c) {
        long[] scores = new long[6];
        for (int r = 0; r < 6; r++) {
            scores[r] = x.does(c, r);
        }
        return scores;
    }

    private static void promise14() {
        EveryoneWins x = Given.children(4123, 9999, 0);
        for (int kind = 0; kind < 6; kind++) {
            x.race(10 * kind + 5, 2);
        }
        check.dueAll("SCORES of 0", scores(x, 0), 41, 43, 28, 56, -13, 20);
        check.dueAll("SCORES of 1", scores(x, 1), 99, 148, 104, -49, 5, 3);
        check.dueAll("SCORES of 2", scores(x, 2), 0, 0, 5, 99, 5, 5);
        x.put(0, 2, 7);
        check.dueAll("SCORES with 7 YARDS", scores(x, 0), 48, 50, 35, 73, -20, 27);
        check.due("no CHILD", x.does(3, 0), -1005);
        check.due("no CHILD -1", x.does(-1, 9), -1005);
        check.due("no RACE", x.does(0, 6), -1006);
        check.due("no RACE -1", x.does(0, -1), -1006);
    }

    private static void promise14Yards() {
        EveryoneWins x = Given.children(1000, 0);
        x.race(0, 2);
        x.race(39, 3);
        x.put(0, 2, 7);
        Given.law(x, "yards 95; worth 0; none 0;");
        check.dueAll("together 99 at most", new long[] {x.does(0, 0), x.does(0, 1)}, 109, 94 + 445);
        Given.law(x, "yards 0 - 50; worth 0; none 0;");
        check.due("the text's are 0 at least", x.does(0, 0), 17);
        Given.law(x, "yards won * 9 + runners * 10 + more; worth 0; none 0;");
        x.day(0);
        check.due("WON none, the RUNNERS without who is asked of", x.does(0, 0), 10 + 7 + 10);
        check.due("two RUNNERS, MORE 9", x.does(0, 1), 94 + (7 + 20 + 9) * 9 / 2);
        x.race(33, 0);
        x.put(0, 2, 5);
        Given.law(x, "yards 0; worth 0; none 0;");
        check.due("5 times 3 by 2, cut", x.does(0, 2), 94 + 7);
    }

    private static void promise15() {
        EveryoneWins x = Given.children(4020, 5010, 330);
        x.race(0, 7);
        x.enter(0, 1, 2);
        x.race(10, 7);
        check.dueAll("the day", new long[] {x.day(0), x.day(1), x.day(2), x.day(3)}, 4, 1, 10 + 10 + 7 - 5, 3);
        check.dueAll("WON", new long[] {x.day(10), x.day(11), x.day(12)}, 2, 1, 0);
        check.due("asked again", x.day(2), 22);
        for (int what : new int[] {-1, 4, 9, 13, 17, 18, Integer.MAX_VALUE, Integer.MIN_VALUE}) {
            check.due("day(" + what + ")", x.day(what), -1000);
        }
        x.enter(0, 1, 3);
        check.dueAll("then nobody has none", new long[] {x.day(0), x.day(1), x.day(2), x.day(3)}, 0, 0, 30 + 7, 4);
        EveryoneWins none = Given.children(0, 0);
        check.dueAll("without RACES", new long[] {none.day(0), none.day(1), none.day(2), none.day(3)}, 3, 2, -10, 0);
        EveryoneWins nobody = new EveryoneWins();
        check.due("without CHILDREN", nobody.day(10), -1000);
    }

    /** 30 YARDS for who has WON none: B, A, then B again; C none. */
    private static void promise15ByLaw() {
        EveryoneWins x = Given.children(4020, 5010, 330);
        x.race(5, 7);
        x.race(6, 7);
        x.race(7, 7);
        Given.law(x, "yards 30 - won * 30; worth race * 10 + won; none runners + more + race + won - 7;");
        check.dueAll("the day", new long[] {x.day(0), x.day(1), x.day(2), x.day(3)}, 4, 1, 0 + 10 + 21 - 7, 3);
        check.dueAll("WON", new long[] {x.day(10), x.day(11), x.day(12)}, 1, 2, 0);
    }

    private static void forHowMany() {
        int[][] due = {
            // By KIND and RIBBONS: for 0, 1, 2, 3, 4, 5, 8 RUNNERS.
            {0, 0, 0, 0, 0, 0, 0, 0, 0}, {0, 1, 0, 1, 1, 1, 1, 1, 1}, {0, 2, 0, 1, 2, 2, 2, 2, 2}, {0, 3, 0, 1, 2, 3, 3, 3, 3},
            {1, 0, 0, 0, 0, 0, 0, 0, 0}, {1, 2, 0, 1, 2, 2, 2, 2, 2}, {3, 0, 0, 0, 0, 0, 0, 0, 0}, {3, 3, 0, 1, 2, 3, 3, 3, 3},
            {2, 0, 0, 1, 1, 0, 0, 0, 0}, {2, 3, 0, 1, 1, 3, 3, 3, 3}, {4, 0, 0, 1, 1, 0, 0, 0, 0}, {4, 2, 0, 1, 1, 2, 2, 2, 2},
            {5, 0, 0, 0, 1, 1, 2, 2, 4}, {5, 3, 0, 0, 1, 1, 2, 2, 4},
        };
        int[] runners = {0, 1, 3, 7, 15, 31, 255};
        for (int[] row : due) {
            EveryoneWins x = Given.children(0, 1, 2, 3, 4, 5, 6, 7);
            x.race(10 * row[0], 0);
            x.enter(0, 1, row[1]);
            for (int i = 0; i < runners.length; i++) {
                x.enter(0, 0, runners[i]);
                check.due("KIND " + row[0] + ", RIBBONS " + row[1] + ", RUNNERS " + runners[i], x.day(3), row[2 + i]);
            }
        }
    }
}
