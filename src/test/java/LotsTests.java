import java.math.BigInteger;

/** Promises 27 to 30: luck by lots, images. */
public final class LotsTests {
    private static final Check check = new Check();

    public static void main(String[] args) {
        promise27();
        promise28();
        promise28Terms();
        promise29and30();
        promise30Again();
        check.end();
    }

    /** LUCK of a CHILD by a SEED, told another way. */
    private static int lot(int seed, int c) {
        BigInteger modulo = BigInteger.valueOf(2147483647);
        BigInteger lot = BigInteger.valueOf(48271).modPow(BigInteger.valueOf(c + 1), modulo);
        return lot.multiply(BigInteger.valueOf(seed + 1)).mod(modulo).mod(BigInteger.valueOf(100)).intValue();
    }

    private static void promise27() {
        EveryoneWins x = Given.children(0, 0, 0, 0, 0, 0, 0, 0);
        // What is JOY is LUCK of who has SPEED 1.
        Given.law(x, "yards 0; worth 0; none luck * (speed = 1);");
        int[] first = {71, 94, 86, 37, 41, 83, 61, 5};
        for (int c = 0; c < 8; c++) {
            x.put(c, 0, 1);
            check.due("LUCK by SEED 0 of " + c, x.drawn(0, 1), first[c]);
            check.due("LUCK by SEED 7 of " + c, x.drawn(7, 1), lot(7, c));
            check.due("LUCK by SEED 99999 of " + c, x.drawn(99999, 1), lot(99999, c));
            check.due("LUCK stays", x.told(c, 1), 0);
            x.put(c, 0, 0);
        }
        check.due("CROSSED", x.drawn(5, 0), 8);
        int[][] none = {{-1, 0}, {100000, 0}, {0, 2}, {0, -1}};
        for (int[] n : none) {
            check.due("drawn(" + n[0] + ", " + n[1] + ")", x.drawn(n[0], n[1]), -1000);
        }
        EveryoneWins egg = Given.children(0, 0);
        egg.race(20, 3);
        Given.law(egg, "yards 0; worth luck; none 0 - luck;");
        for (int seed = 0; seed < 20; seed++) {
            check.due("the lucky one less the other", egg.drawn(seed, 1), Math.abs(lot(seed, 0) - lot(seed, 1)));
        }
        EveryoneWins nobody = new EveryoneWins();
        check.due("no CHILDREN", nobody.drawn(0, 0) + nobody.drawn(0, 1), 0);
        EveryoneWins lucky = Given.children(9, 8, 7, 6, 5, 4, 3, 2);
        lucky.drawn(5, 1);
        for (int c = 0; c < 8; c++) {
            check.due("LUCK stays as it was", lucky.told(c, 1), 9 - c);
        }
        EveryoneWins odd = Given.children(9, 8, 7, 6, 5, 4, 3, 2);
        odd.odds(5, 2, 1, 0);
        for (int c = 0; c < 8; c++) {
            check.due("LUCK stays as it was, too", odd.told(c, 1), 9 - c);
        }
    }

    private static int good(int seed, int seeds) {
        int good = 0;
        for (int i = 0; i < seeds; i++) {
            good += lot(seed + i, 1) > lot(seed + i, 0) ? 1 : 0;
        }
        return good;
    }

    private static void promise28() {
        EveryoneWins x = Given.eggOfTwo();
        for (int seed : new int[] {0, 7, 500, 99990, 99999}) {
            for (int seeds = 1; seeds <= 60; seeds++) {
                int good = good(seed, seeds);
                int common = BigInteger.valueOf(good).gcd(BigInteger.valueOf(seeds)).intValue();
                check.due("above", x.odds(seed, seeds, 0, 0), good / common);
                check.due("below", x.odds(seed, seeds, 0, 1), seeds / common);
                if (x.odds(seed, seeds, 0, 0) != good / common) {
                    return;
                }
            }
            x = Given.eggOfTwo();
        }
    }

    private static void promise28Terms() {
        EveryoneWins x = Given.eggOfTwo();
        check.dueAll("all", new long[] {x.odds(3, 30, 1, 0), x.odds(3, 30, 1, 1)}, 1, 1);
        check.dueAll("all, most 8", new long[] {x.odds(3, 60, 8, 0), x.odds(3, 60, 8, 1)}, 1, 1);
        x.enter(0, 0, 0);
        check.dueAll("none", new long[] {x.odds(3, 30, 0, 0), x.odds(3, 30, 0, 1)}, 0, 1);
        int[][] none = {{-1, 1, 0, 0}, {100000, 1, 0, 0}, {0, 0, 0, 0}, {0, 61, 0, 0}, {0, 1, -1, 0}, {0, 1, 9, 0},
            {0, 1, 0, -1}, {0, 1, 0, 2}, {0, Integer.MIN_VALUE, 0, 0}};
        for (int[] n : none) {
            check.due("none such", x.odds(n[0], n[1], n[2], n[3]), EveryoneWins.NO);
        }
    }

    private static void promise29and30() {
        EveryoneWins x = Given.children(4020, 5010);
        check.due("back: none", x.back(), EveryoneWins.STATE);
        x.race(25, 3);
        x.race(33, 1);
        x.put(0, 2, 5);
        x.enter(1, 1, 3);
        check.due("image", x.image(), 2);
        x.put(0, 0, 1);
        x.put(0, 1, 2);
        x.put(0, 2, 3);
        x.child(9999);
        x.put(2, 2, 44);
        x.enter(0, 0, 4);
        x.enter(0, 1, 0);
        x.enter(1, 1, 2);
        x.race(59, 7);
        Given.law(x, "yards 0; worth 0; none 0;");
        Given.tape(x, "abc");
        Given.sheet(x, 0, 0, 7);
        check.due("the image does not follow", x.back(), 2);
        check.dueAll("CHILD 0", new long[] {x.told(0, 0), x.told(0, 1), x.told(0, 2)}, 40, 20, 5);
        check.dueAll("CHILD 1", new long[] {x.told(1, 0), x.told(1, 1), x.told(1, 2)}, 50, 10, 0);
        check.dueAll("RACE 0", new long[] {x.card(0, 0), x.card(0, 1), x.card(0, 2), x.card(0, 3)}, 2, 5, 3, 1);
        check.dueAll("RACE 1", new long[] {x.card(1, 0), x.card(1, 1), x.card(1, 2), x.card(1, 3)}, 3, 3, 1, 3);
        check.dueAll("count", new long[] {x.count(0), x.count(1), x.count(2), x.count(3), x.count(4)}, 2, 2, 2, 0, 3);
        check.due("none came", x.told(2, 0), -5);
        check.due("no RACE came", x.card(2, 0), -6);
        check.due("SHEETS stay", x.cell(0, 0, 7), 1);
        check.due("a CHILD comes anew", x.child(1), 2);
        check.due("without YARDS", x.told(2, 2), 0);
        check.due("a RACE comes anew", x.race(10, 4), 2);
        check.dueAll("as one comes", new long[] {x.card(2, 0), x.card(2, 1), x.card(2, 2), x.card(2, 3)}, 1, 0, 4, 1);
    }

    private static void promise30Again() {
        EveryoneWins x = new EveryoneWins();
        check.due("image of nothing", x.image(), 0);
        x.child(1234);
        x.race(0, 1);
        check.due("back to nothing", x.back(), 0);
        check.dueAll("nothing", new long[] {x.count(0), x.count(1)}, 0, 0);
        x.child(4321);
        x.put(0, 2, 9);
        Given.law(x, "yards 0; worth 0; none 0;");
        check.due("another image", x.image(), 0);
        x.force(0);
        x.put(0, 2, 8);
        check.due("back", x.back(), 0);
        check.dueAll("as it was then", new long[] {x.told(0, 2), x.count(3), x.count(1)}, 9, 1, 1);
        x.put(0, 2, 7);
        check.due("back once more", x.back(), 0);
        check.due("as it was then, too", x.told(0, 2), 9);
    }
}
