/** Promises 1 to 9: children, the law. */
public final class ChildrenTests {
    private static final Check check = new Check();

    public static void main(String[] args) {
        promise1();
        check.end();
    }

    private static void promise1() {
        EveryoneWins x = new EveryoneWins();
        check.due("count(0)", x.count(0), 0);
        check.due("count(1)", x.count(1), 0);
    }
}
