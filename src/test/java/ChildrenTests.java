/** Promises 1 to 6, 8 and 9: children, the law. */
public final class ChildrenTests {
    private static final Check check = new Check();

    public static void main(String[] args) {
        promise1();
        promise2();
        promise3();
        promise4and5();
        promise6();
        promise8();
        promise9();
        promise9Bounds();
        check.end();
    }

    private static void promise1() {
        EveryoneWins x = new EveryoneWins();
        check.due("new: RACES", x.count(0), 0);
        check.due("new: CHILDREN", x.count(1), 0);
        check.due("new: TEXTS", x.count(2), 1);
        check.due("new: THE LAW", x.count(3), 0);
        check.due("new: THE TAPE", x.count(4), 0);
        check.due("new: no CHILD", x.told(0, 0), -5);
        check.due("new: no RACE", x.card(0, 0), -6);
        check.due("new: no IMAGE", x.back(), EveryoneWins.STATE);
        for (int s = 0; s < 4; s++) {
            check.due("new: SHEET " + s, x.judge(s), -11);
        }
    }

    private static void promise2() {
        EveryoneWins x = Given.children(1, 2, 3);
        x.race(0, 0);
        x.race(0, 7);
        Given.text(x, "yards 0; worth 0; none 0;");
        x.force(1);
        Given.tape(x, "abcd");
        check.due("count(0)", x.count(0), 2);
        check.due("count(1)", x.count(1), 3);
        check.due("count(2)", x.count(2), 2);
        check.due("count(3)", x.count(3), 1);
        check.due("count(4)", x.count(4), 4);
        check.due("count(5)", x.count(5), EveryoneWins.BAD);
        check.due("count(-1)", x.count(-1), EveryoneWins.BAD);
        check.due("count(MAX)", x.count(Integer.MAX_VALUE), EveryoneWins.BAD);
    }

    private static void promise3() {
        EveryoneWins x = new EveryoneWins();
        check.due("child(-1)", x.child(-1), EveryoneWins.BAD);
        check.due("child(10000)", x.child(10000), EveryoneWins.BAD);
        check.due("child(MIN)", x.child(Integer.MIN_VALUE), EveryoneWins.BAD);
        check.due("none came", x.count(1), 0);
        int[] speedLucks = {9999, 0, 4203, 99, 9900, 1, 100, 1234};
        for (int c = 0; c < 8; c++) {
            check.due("child " + c, x.child(speedLucks[c]), c);
            check.due("SPEED " + c, x.told(c, 0), speedLucks[c] / 100);
            check.due("LUCK " + c, x.told(c, 1), speedLucks[c] % 100);
            check.due("YARDS " + c, x.told(c, 2), 0);
        }
        check.due("a ninth", x.child(0), EveryoneWins.FULL);
        check.due("a bad ninth", x.child(10000), EveryoneWins.BAD);
        check.due("eight stay", x.count(1), 8);
    }

    private static void promise4and5() {
        EveryoneWins x = Given.children(4020, 5010);
        check.due("put SPEED", x.put(0, 0, 99), 40);
        check.due("put LUCK", x.put(0, 1, 0), 20);
        check.due("put YARDS", x.put(0, 2, 7), 0);
        check.due("put YARDS again", x.put(0, 2, 99), 7);
        check.dueAll("told of 0", new long[] {x.told(0, 0), x.told(0, 1), x.told(0, 2)}, 99, 0, 99);
        check.dueAll("told of 1", new long[] {x.told(1, 0), x.told(1, 1), x.told(1, 2)}, 50, 10, 0);
        check.due("put: no CHILD", x.put(2, 0, 0), -5);
        check.due("put: no CHILD -1", x.put(-1, 9, 100), -5);
        check.due("put: what 3", x.put(0, 3, 0), -7);
        check.due("put: what -1", x.put(0, -1, 0), -7);
        check.due("put: v 100", x.put(0, 0, 100), -7);
        check.due("put: v -1", x.put(0, 2, -1), -7);
        check.due("told: no CHILD", x.told(2, 0), -5);
        check.due("told: no CHILD -1", x.told(-1, 7), -5);
        check.due("told: what 3", x.told(0, 3), -7);
        check.due("told: what -1", x.told(1, -1), -7);
        check.dueAll("unchanged", new long[] {x.told(0, 0), x.told(0, 1), x.told(0, 2)}, 99, 0, 99);
    }

    private static void promise6() {
        EveryoneWins x = new EveryoneWins();
        check.due("n 0", x.feed(0, 1, 1, 1, 1, 1), EveryoneWins.BAD);
        check.due("n 6", x.feed(6, 1, 1, 1, 1, 1), EveryoneWins.BAD);
        for (int i = 0; i < 5; i++) {
            check.due("byte -1 at " + i, x.feed(1, i == 0 ? -1 : 0, i == 1 ? -1 : 0, i == 2 ? -1 : 0,
                i == 3 ? -1 : 0, i == 4 ? -1 : 0), EveryoneWins.BAD);
            check.due("byte 256 at " + i, x.feed(1, i == 0 ? 256 : 0, i == 1 ? 256 : 0, i == 2 ? 256 : 0,
                i == 3 ? 256 : 0, i == 4 ? 256 : 0), EveryoneWins.BAD);
        }
        check.due("nothing came", x.count(4), 0);
        check.due("five", x.feed(5, 'y', 'a', 'r', 'd', 's'), 5);
        check.due("one", x.feed(1, '1', 255, 255, 255, 255), 6);
        check.due("four", x.feed(4, ';', 'w', 'o', 'r', 255), 10);
        check.due("three", x.feed(3, 't', 'h', '2', 255, 255), 13);
        check.due("two", x.feed(2, ';', 'n', 255, 255, 255), 15);
        check.due("the rest", x.feed(5, 'o', 'n', 'e', '3', ';'), 20);
        check.due("they stand in their order", x.text(), 1);
        for (int i = 1; i <= 31; i++) {
            check.due("fives", x.feed(5, 0, 255, 32, 97, 48), 5 * i);
        }
        check.due("three more", x.feed(3, 0, 0, 0, 0, 0), 158);
        check.due("three have no room", x.feed(3, 0, 0, 0, 0, 0), EveryoneWins.FULL);
        check.due("none of them came", x.count(4), 158);
        check.due("two have", x.feed(2, 0, 0, 0, 0, 0), 160);
        check.due("one has not", x.feed(1, 0, 0, 0, 0, 0), EveryoneWins.FULL);
        check.due("BAD is ahead of FULL", x.feed(1, 0, 0, 0, 0, 256), EveryoneWins.BAD);
    }

    private static void promise8() {
        EveryoneWins x = Given.children(4020);
        check.due("a second TEXT", Given.text(x, "yards 1; worth 2; none 3;"), 1);
        check.due("it isn't THE LAW yet", x.count(3), 0);
        check.due("worth by TEXT 0", x.asks(1, 0, -1, 0), 10);
        check.due("force(1)", x.force(1), 0);
        check.due("THE LAW", x.count(3), 1);
        check.due("worth by TEXT 1", x.asks(1, 0, -1, 0), 2);
        check.due("force(1) again", x.force(1), 1);
        check.due("force(2)", x.force(2), EveryoneWins.BAD);
        check.due("force(-1)", x.force(-1), EveryoneWins.BAD);
        check.due("THE LAW stays", x.count(3), 1);
        check.due("force(0)", x.force(0), 1);
        check.due("worth by TEXT 0 again", x.asks(1, 0, -1, 0), 10);
    }

    private static void promise9() {
        EveryoneWins x = Given.children(4020, 507);
        x.race(36, 3);
        x.race(7, 1);
        check.dueAll("TEXT 0: yards, worth, none", new long[] {x.asks(0, 0, 0, 0), x.asks(1, 0, 0, 0), x.asks(2, 0, 0, 0)},
            0, 10, -5);
        check.dueAll("TEXT 0: worth by WON", new long[] {x.asks(1, 0, 0, 1), x.asks(1, 0, 0, 3), x.asks(1, 0, 0, 6)},
            7, 1, -8);
        Given.law(x, "yards speed + luck*2; worth won*10 + more; none runners*10 + race;");
        check.due("yards of CHILD 0", x.asks(0, 0, 0, 0), 80);
        check.due("yards of CHILD 1", x.asks(0, 1, 0, 0), 19);
        check.due("worth in RACE 0", x.asks(1, 0, 0, 2), 26);
        check.due("worth in RACE 1", x.asks(1, 0, 1, 6), 67);
        check.due("worth in no RACE", x.asks(1, 0, -1, 6), 60);
        check.due("none in RACE 0", x.asks(2, 0, 0, 0), 20);
        check.due("none in RACE 1", x.asks(2, 1, 1, 0), 11);
        check.due("none in no RACE", x.asks(2, 1, -1, 0), 0);
        x.put(0, 2, 50);
        check.due("YARDS anyhow are none of the text's", x.asks(0, 0, 0, 0), 80);
        int[][] none = {{3, 0, 0, 0}, {-1, 0, 0, 0}, {0, 2, 0, 0}, {0, -1, 0, 0}, {0, 0, 2, 0}, {0, 0, -2, 0},
            {0, 0, 0, 7}, {0, 0, 0, -1}};
        for (int[] n : none) {
            check.due("none such", x.asks(n[0], n[1], n[2], n[3]), -1000);
        }
    }

    private static void promise9Bounds() {
        EveryoneWins x = Given.children(4020);
        Given.law(x, "yards 100; worth 100; none 100;");
        check.dueAll("above", new long[] {x.asks(0, 0, -1, 0), x.asks(1, 0, -1, 0), x.asks(2, 0, -1, 0)}, 99, 99, 99);
        Given.law(x, "yards -1; worth -100; none -100;");
        check.dueAll("below", new long[] {x.asks(0, 0, -1, 0), x.asks(1, 0, -1, 0), x.asks(2, 0, -1, 0)}, 0, -99, -99);
        Given.law(x, "yards 99; worth -99; none 99;");
        check.dueAll("at it", new long[] {x.asks(0, 0, -1, 0), x.asks(1, 0, -1, 0), x.asks(2, 0, -1, 0)}, 99, -99, 99);
    }
}
