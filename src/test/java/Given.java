/** Makes objects that tests begin with. */
final class Given {
    private Given() {
    }

    static EveryoneWins children(int... speedLucks) {
        EveryoneWins x = new EveryoneWins();
        for (int speedLuck : speedLucks) {
            x.child(speedLuck);
        }
        return x;
    }

    /** CHILD 0 wins the FLAT; nobody is CROSSED if CHILD 1 wins the EGG, by more LUCK. */
    static EveryoneWins eggOfTwo() {
        EveryoneWins x = children(1050, 50);
        x.race(0, 3);
        x.race(20, 3);
        return x;
    }

    static void tape(EveryoneWins x, String bytes) {
        for (char b : bytes.toCharArray()) {
            x.feed(1, b, 0, 0, 0, 0);
        }
    }

    static int text(EveryoneWins x, String bytes) {
        tape(x, bytes);
        return x.text();
    }

    /** Puts this text into force. */
    static void law(EveryoneWins x, String bytes) {
        x.force(text(x, bytes));
    }

    static void sheet(EveryoneWins x, int s, int sort, int... numbers) {
        x.sheet(s, sort, numbers.length);
        for (int i = 0; i < numbers.length; i++) {
            x.cell(s, i, numbers[i]);
        }
    }
}
