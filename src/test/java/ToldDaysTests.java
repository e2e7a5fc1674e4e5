/** Promises 22 to 26: told days. */
public final class ToldDaysTests {
    private static final Check check = new Check();

    public static void main(String[] args) {
        promise22();
        promise22Sorts();
        promise23();
        promise24();
        promise25();
        promise26();
        refusals();
        check.end();
    }

    /** A of SPEED 40, LUCK 20; B of SPEED 50, LUCK 10; RACES in which both run. */
    private static EveryoneWins two(int... kindMores) {
        EveryoneWins x = Given.children(4020, 5010);
        for (int kindMore : kindMores) {
            x.race(kindMore, 3);
        }
        return x;
    }

    private static int judged(EveryoneWins x, int... bits) {
        Given.sheet(x, 3, 2, bits);
        return x.judge(3);
    }

    private static void promise22() {
        EveryoneWins x = two(0, 10, 50);
        // B in the FLAT, A in the SACK, A in the CHEER (30 against 8).
        check.due("as it is", judged(x, 2, 1, 1), -1);
        check.due("first otherwise", judged(x, 1, 1, 1), 0);
        check.due("second otherwise", judged(x, 2, 2, 1), 1);
        check.due("last otherwise", judged(x, 2, 1, 0), 2);
        check.due("the first of all", judged(x, 3, 3, 3), 0);
        check.due("more bits", judged(x, 2 + 256, 1, 1), 0);
        check.due("the law matters", judged(x, 2, 1, 1), -1);
        Given.law(x, "yards 99 - speed; worth 0; none 0;");
        check.due("A is level", judged(x, 1, 1, 1), -1);
        check.due("B isn't ahead", judged(x, 2, 1, 1), 0);
        EveryoneWins none = new EveryoneWins();
        check.due("no RACES", judged(none), -1);
    }

    private static void promise22Sorts() {
        EveryoneWins x = Given.children(0, 0, 0, 0, 0, 0, 1, 1);
        x.race(20, 255);
        for (int sort = 0; sort <= 2; sort++) {
            Given.sheet(x, sort, sort, 64);
            check.due("64, sort " + sort, x.judge(sort), -1);
        }
        x.enter(0, 0, 128);
        for (int sort = 1; sort <= 2; sort++) {
            Given.sheet(x, sort, sort, 128);
            check.due("128, sort " + sort, x.judge(sort), -1);
        }
        // A byte is Java's: 128 becomes -128 in it.
        Given.sheet(x, 0, 0, 128);
        check.due("128, a byte", x.judge(0), 0);
        Given.sheet(x, 1, 1, 65536 + 128);
        check.due("the lowest 16 bits", x.judge(1), -1);
    }

    private static void promise23() {
        EveryoneWins x = two(0);
        check.due("A wins: KINDS", told(x, 0, 1), 2 + 4 + 16 + 32);
        check.due("B wins: KINDS", told(x, 0, 2), 1 + 8);
        check.due("both: KINDS", told(x, 0, 3), 0);
        check.due("A wins: MORE", told(x, 1, 1), 0);
        check.due("B wins: MORE", told(x, 1, 2), 1023);
        check.due("none: RIBBONS", told(x, 2, 0), 1);
        check.due("B: RIBBONS", told(x, 2, 2), 2);
        check.due("both: RIBBONS", told(x, 2, 3), 4 + 8);
        check.dueAll("the card stays", new long[] {x.card(0, 0), x.card(0, 1), x.card(0, 2), x.card(0, 3)}, 0, 0, 3, 1);
        EveryoneWins cheer = two(57);
        // (340 + MORE) and (380 + MORE), modulo 31: 30 and 8; 0 and 9; ..
        check.due("A wins the CHEER: MORE", told(cheer, 1, 1), 1);
        check.due("B wins the CHEER: MORE", told(cheer, 1, 2), 1022);
        check.due("MORE stays", cheer.card(0, 1), 7);
        EveryoneWins later = two(0, 0);
        Given.sheet(later, 0, 1, 2, 1);
        check.due("RACE 1 by its KIND", later.kinds(0, 1, 0), 2 + 4 + 16 + 32);
        check.due("RACE 0 can't mend RACE 1", later.kinds(0, 0, 0), 0);
        Given.law(later, "yards 20 - won * 20; worth 0; none 0;");
        // Is RACE 0 won by B, A is ahead in RACE 1.
        check.due("RACE 0 by what follows", later.kinds(0, 0, 2), 2);
    }

    private static int told(EveryoneWins x, int sort, int bits) {
        Given.sheet(x, 0, 0, bits);
        return x.kinds(0, 0, sort);
    }

    private static long[] quickOf(EveryoneWins x, int c, int bits) {
        Given.sheet(x, 1, 2, bits);
        return new long[] {x.quick(1, c, 0), x.quick(1, c, 1), x.quick(1, c, 10), x.quick(1, c, 11),
            x.quick(1, c, 20), x.quick(1, c, 21)};
    }

    private static void promise24() {
        EveryoneWins x = two(0);
        check.dueAll("A, if A wins", quickOf(x, 0, 1), 50, 50, 0, -1, 90, 10);
        check.dueAll("B, if A wins", quickOf(x, 1, 1), 41, 0, 0, -1, 0, -1);
        check.dueAll("A, if B wins", quickOf(x, 0, 2), 50, 0, 100, 0, 10, 0);
        check.dueAll("B, if B wins", quickOf(x, 1, 2), 59, 41, 100, 0, 100, 0);
        check.dueAll("A, if nobody wins", quickOf(x, 0, 0), 0, -1, 0, -1, 0, -1);
        check.dueAll("all stays", new long[] {x.told(0, 0), x.told(0, 1), x.told(0, 2)}, 40, 20, 0);
        EveryoneWins egg = two(20);
        check.dueAll("LUCK of A, if B wins", quickOf(egg, 0, 2), 0, -1, 10, 0, 0, -1);
        egg.put(0, 2, 30);
        check.dueAll("YARDS anyhow count for LUCK", quickOf(egg, 0, 1), 100, 0, 100, 0, 100, 0);
        check.due("YARDS stay", egg.told(0, 2), 30);
    }

    private static void promise25() {
        EveryoneWins x = two(0);
        Given.text(x, "yards 99 - speed; worth 0; none 0;");
        Given.text(x, "yards luck * 2; worth 0; none 0;");
        Given.text(x, "yards luck; worth 0; none 0;");
        Given.sheet(x, 0, 0, 1);
        check.due("A wins", x.laws(0), 2 + 4 + 8);
        Given.sheet(x, 0, 0, 2);
        check.due("B wins", x.laws(0), 1);
        Given.sheet(x, 0, 0, 3);
        check.due("both win", x.laws(0), 0);
        x.force(2);
        check.due("THE LAW does not matter", x.laws(0), 0);
        check.due("THE LAW stays", x.count(3), 2);
        EveryoneWins none = new EveryoneWins();
        Given.text(none, "yards 0; worth 0; none 0;");
        none.sheet(0, 0, 0);
        check.due("no RACES", none.laws(0), 3);
    }

    private static void promise26() {
        EveryoneWins x = two(0, 10, 50);
        x.enter(0, 1, 3);
        Given.sheet(x, 2, 2, 9, 9, 9, 9, 9);
        check.due("ribbons in all", x.film(2), 4);
        check.due("it tells the day", x.judge(2), -1);
        Given.sheet(x, 3, 1, 0, 0, 0);
        check.due("it is of shorts", x.copy(3, 0, 2, 0, 1), 1);
        check.due("it was changed", x.judge(2), 0);
        check.due("not one more", x.cell(2, 3, 0), -12);
        check.due("a missing one", x.film(0), 4);
        check.due("its numbers come", x.childrenBy(0, 1, 0, 3), 3);
        check.dueAll("both, A, A", new long[] {x.told(2, 1), x.told(3, 1), x.told(4, 1), x.told(2, 0)}, 3, 1, 1, 0);
        EveryoneWins none = new EveryoneWins();
        check.due("no RACES", none.film(1), 0);
        check.due("a row of nothing", none.cell(1, 0, 0), -12);
        check.due("a day without RACES", none.judge(1), -1);
        check.due("SHEET 4", none.film(4), EveryoneWins.BAD);
        check.due("SHEET -1", none.film(-1), EveryoneWins.BAD);
        EveryoneWins eight = Given.children(0, 0, 0, 0, 0, 0, 0, 9999);
        eight.race(0, 255);
        check.due("the eighth", eight.film(0), 1);
        check.due("has bit 7", eight.judge(0), -1);
    }

    private static void refusals() {
        EveryoneWins x = two(0);
        Given.sheet(x, 0, 0, 2);
        Given.sheet(x, 1, 0, 2, 2);
        Given.sheet(x, 2, 0);
        int[][] due = {{-1, EveryoneWins.BAD}, {4, EveryoneWins.BAD}, {3, -11}, {1, EveryoneWins.BAD}, {2, EveryoneWins.BAD}};
        for (int[] d : due) {
            check.due("judge(" + d[0] + ")", x.judge(d[0]), d[1]);
            check.due("kinds(" + d[0] + ")", x.kinds(d[0], 9, 9), d[1]);
            check.due("quick(" + d[0] + ")", x.quick(d[0], 9, 9), d[1]);
            check.due("laws(" + d[0] + ")", x.laws(d[0]), d[1]);
        }
        check.due("kinds: RACE 1", x.kinds(0, 1, 9), -6);
        check.due("kinds: RACE -1", x.kinds(0, -1, 0), -6);
        check.due("kinds: sort 3", x.kinds(0, 0, 3), -7);
        check.due("kinds: sort -1", x.kinds(0, 0, -1), -7);
        check.due("quick: CHILD 2", x.quick(0, 2, 99), -5);
        check.due("quick: CHILD -1", x.quick(0, -1, 0), -5);
        for (int sortWhat : new int[] {-1, -10, 2, 9, 12, 19, 22, 30, 31, Integer.MAX_VALUE, Integer.MIN_VALUE}) {
            check.due("quick: sortWhat " + sortWhat, x.quick(0, 0, sortWhat), -7);
        }
    }
}
