import java.util.function.Supplier;

/** Boundary cases of promises 1 to 6, 8 and 9, sentence by sentence: children, the law. */
public final class EdgesOfChildrenTests {
    private static final int BAD = EveryoneWins.BAD, FULL = EveryoneWins.FULL;
    private static final Edges edges = new Edges();

    public static void main(String[] args) {
        aNewObjectIsEmpty();
        aNewObjectHasItsText();
        objectsAreApart();
        countOfAllFull();
        countRefuses();
        childTakes();
        childRefuses();
        childComesWithoutYards();
        putTakes();
        putRefuses();
        toldRefuses();
        feedTakes();
        feedFillsTheTape();
        feedRefuses();
        forceTakesAndRefuses();
        asksTakes();
        asksRefuses();
        asksBoundsWhatIsTold();
        asksWraps();
        edges.end();
    }

    private static void aNewObjectIsEmpty() {
        edges.sentence("Promise 1: no CHILDREN, no RACES");
        EveryoneWins x = new EveryoneWins();
        edges.row(x, "count(", 0, 0, 0, 1, 0, 0);
        edges.row(x, "day(", 0, 0, 0, 0, 0);
        edges.due(x, "day(10)", -1000);
        edges.due(x, "told(0, 0)", -5);
        edges.due(x, "card(0, 0)", -6);
        edges.due(x, "comes(0, 0)", -6);
        edges.due(x, "does(0, 0)", -1005);
        edges.due(x, "asks(0, 0, -1, 0)", -1000);
        for (String best : new String[] {"let(", "spare(", "drop(", "order(", "tie("}) {
            edges.row(x, best, 0, -1, 0, 0);
        }
        edges.due(x, "needs(0, 0)", -5);
        edges.row(x, "drawn(0, ", 0, 0, 0);
        edges.row(x, "odds(0, 60, 0, ", 0, 1, 1);
        edges.row(x, "taken(0, ", 0, -11, -11, -11, -11, -11, -11, -11);
        edges.row(x, "taken(6, ", 0, -11, -11, -11, -11, -11, -11, -11);
        edges.due(x, "back()", EveryoneWins.STATE);
        edges.sentence("Terms: all SHEETS are missing at first");
        for (int s = 0; s < 4; s++) {
            edges.due(x, "judge(" + s + ")", -11);
            edges.due(x, "cell(" + s + ", 0, 0)", -11);
        }
        edges.sentence("Promise 1: a RACE of no CHILDREN");
        edges.due(x, "race(0, 1)", BAD);
        edges.due(x, "race(0, 0)", 0);
        edges.row(x, "comes(0, ", 0, -1, -1, -1, -1, -1, -1, -1, -1);
        edges.row(x, "day(", 0, 0, 0, 0, 0);
    }

    private static void aNewObjectHasItsText() {
        edges.sentence("Terms: TEXT 0, at first");
        EveryoneWins x = Given.children(4020);
        edges.due(x, "force(0)", 0);
        edges.due(x, "force(1)", BAD);
        for (int wins = 0; wins <= 6; wins++) {
            edges.due(x, "asks(0, 0, -1, " + wins + ")", 0);
            edges.due(x, "asks(1, 0, -1, " + wins + ")", 10 - 3 * wins);
            edges.due(x, "asks(2, 0, -1, " + wins + ")", -5);
        }
    }

    private static void objectsAreApart() {
        edges.sentence("Promise 1: whatever was done with another object");
        EveryoneWins other = States.FULL.get();
        other.image();
        edges.changesNothing(() -> {
            States.FULL.get().day(0);
            return new EveryoneWins();
        }, "count(0)", 0);
        edges.due(other, "count(0)", 6);
    }

    private static void countOfAllFull() {
        edges.sentence("Promise 2: all full");
        edges.row(States.FULL.get(), "count(", 0, 6, 8, 6, 4, 160);
    }

    private static void countRefuses() {
        edges.sentence("Promise 2: BAD what");
        for (String what : new String[] {"-1", "5", "MIN", "MAX"}) {
            edges.changesNothing(States.SOME, "count(" + what + ")", BAD);
        }
    }

    private static void childTakes() {
        edges.sentence("Promise 3: SPEED, LUCK of 0 .. 99");
        EveryoneWins x = new EveryoneWins();
        int[] speedLucks = {0, 9999, 99, 100, 9900, 1, 5000, 6309};
        for (int c = 0; c < 8; c++) {
            edges.due(x, "child(" + speedLucks[c] + ")", c);
            edges.row(x, "told(" + c + ", ", 0, speedLucks[c] / 100, speedLucks[c] % 100, 0);
            edges.due(x, "count(1)", c + 1);
        }
    }

    private static void childRefuses() {
        for (String speedLuck : new String[] {"-1", "10000", "-100", "MIN", "MAX"}) {
            edges.sentence("Promise 3: BAD speedLuck");
            edges.changesNothing(States.SOME, "child(" + speedLuck + ")", BAD);
            edges.sentence("Promise 3: BAD is told ahead of FULL");
            edges.changesNothing(States.FULL, "child(" + speedLuck + ")", BAD);
        }
        edges.sentence("Promise 3: a ninth CHILD");
        edges.changesNothing(States.FULL, "child(0)", FULL);
        edges.changesNothing(States.FULL, "child(9999)", FULL);
    }

    private static void childComesWithoutYards() {
        edges.sentence("Terms: YARDS anyhow are 0 as one comes, also where there was one before");
        EveryoneWins x = new EveryoneWins();
        edges.due(x, "image()", 0);
        edges.due(x, "child(1111)", 0);
        edges.due(x, "put(0, 2, 99)", 0);
        edges.due(x, "back()", 0);
        edges.due(x, "child(2222)", 0);
        edges.row(x, "told(0, ", 0, 22, 22, 0);
    }

    private static void putTakes() {
        edges.sentence("Promise 4: 0 and 99 are taken of each; the answer is what it was");
        for (int what = 0; what < 3; what++) {
            EveryoneWins x = States.FULL.get();
            for (int c = 0; c < 8; c++) {
                int was = x.told(c, what);
                edges.due(x, "put(" + c + ", " + what + ", 99)", was);
                edges.due(x, "put(" + c + ", " + what + ", 0)", 99);
                edges.due(x, "told(" + c + ", " + what + ")", 0);
                edges.due(x, "put(" + c + ", " + what + ", " + was + ")", 0);
            }
            edges.sentence("Promise 4: none but that one is changed");
            edges.samePicture(States.FULL, "put(7, " + what + ", " + x.told(7, what) + ")");
        }
    }

    private static void putRefuses() {
        edges.sentence("Promise 4: -5, no such CHILD, is told ahead of -7");
        edges.changesNothing(States.NOTHING, "put(0, 0, 0)", -5);
        for (String c : new String[] {"-1", "3", "8", "MIN", "MAX"}) {
            edges.changesNothing(States.SOME, "put(" + c + ", 0, 0)", -5);
            edges.changesNothing(States.SOME, "put(" + c + ", 3, 100)", -5);
        }
        edges.changesNothing(States.FULL, "put(8, 2, 1)", -5);
        edges.sentence("Promise 4: -7, what");
        for (String what : new String[] {"-1", "3", "MIN", "MAX"}) {
            edges.changesNothing(States.SOME, "put(2, " + what + ", 1)", -7);
        }
        edges.sentence("Promise 4: -7, v");
        for (int what = 0; what < 3; what++) {
            for (String v : new String[] {"-1", "100", "MIN", "MAX"}) {
                edges.changesNothing(States.SOME, "put(1, " + what + ", " + v + ")", -7);
            }
        }
    }

    private static void toldRefuses() {
        edges.sentence("Promise 5: -5, no such CHILD, is told ahead of -7");
        edges.changesNothing(States.NOTHING, "told(0, 0)", -5);
        for (String c : new String[] {"-1", "3", "8", "MIN", "MAX"}) {
            edges.changesNothing(States.SOME, "told(" + c + ", 0)", -5);
            edges.changesNothing(States.SOME, "told(" + c + ", 3)", -5);
        }
        edges.changesNothing(States.FULL, "told(8, 0)", -5);
        edges.sentence("Promise 5: -7, what");
        for (String what : new String[] {"-1", "3", "MIN", "MAX"}) {
            edges.changesNothing(States.SOME, "told(2, " + what + ")", -7);
        }
    }

    private static void feedTakes() {
        edges.sentence("Promise 6: the first n of five, in their order");
        String bytes = "yards 1;worth 2;none luck*speed-9;";
        for (int n = 1; n <= 5; n++) {
            EveryoneWins x = Given.children(304);
            for (int i = 0; i < bytes.length(); i += n) {
                int many = Math.min(n, bytes.length() - i);
                int[] b = {255, 255, 255, 255, 255};
                for (int k = 0; k < many; k++) {
                    b[k] = bytes.charAt(i + k);
                }
                edges.due(x, "feed(" + many + ", " + b[0] + ", " + b[1] + ", " + b[2] + ", " + b[3] + ", " + b[4] + ")", i + many);
            }
            edges.due(x, "text()", 1);
            edges.due(x, "force(1)", 0);
            edges.due(x, "asks(2, 0, -1, 0)", 3);
        }
        edges.sentence("Promise 6: bytes of 0 .. 255");
        EveryoneWins x = new EveryoneWins();
        edges.due(x, "feed(5, 0, 0, 0, 0, 0)", 5);
        edges.due(x, "feed(5, 255, 255, 255, 255, 255)", 10);
    }

    private static void feedFillsTheTape() {
        edges.sentence("Promise 6: 160 bytes have room, 161 have not");
        for (int n = 1; n <= 5; n++) {
            int rest = n;
            Supplier<EveryoneWins> almost = () -> tapeOf(160 - rest);
            edges.due(almost.get(), "feed(" + n + ", 32, 32, 32, 32, 32)", 160);
            for (int more = n + 1; more <= 5; more++) {
                edges.changesNothing(almost, "feed(" + more + ", 32, 32, 32, 32, 32)", FULL);
            }
        }
        for (int n = 1; n <= 5; n++) {
            edges.changesNothing(States.FULL, "feed(" + n + ", 0, 0, 0, 0, 0)", FULL);
        }
        edges.sentence("Promise 6: the last byte of 160 stands there");
        EveryoneWins x = tapeOf(155);
        edges.due(x, "feed(5, 59, 32, 32, 32, 49)", 160);
        edges.due(x, "text()", -259);
        edges.sentence("Promise 6: an empty TAPE has all its room again");
        edges.due(x, "count(4)", 0);
        for (int i = 1; i <= 32; i++) {
            edges.due(x, "feed(5, 1, 2, 3, 4, 5)", 5 * i);
        }
        edges.due(x, "feed(1, 1, 2, 3, 4, 5)", FULL);
    }

    /** A text of so many bytes, right but for its last ; and without any token at its end. */
    private static EveryoneWins tapeOf(int size) {
        EveryoneWins x = new EveryoneWins();
        String text = "yards 1;worth 2;none 3";
        Given.tape(x, text + " ".repeat(size - text.length()));
        return x;
    }

    private static void feedRefuses() {
        edges.sentence("Promise 6: BAD n");
        for (String n : new String[] {"0", "6", "-1", "MIN", "MAX"}) {
            edges.changesNothing(States.SOME, "feed(" + n + ", 32, 32, 32, 32, 32)", BAD);
        }
        for (int place = 0; place < 5; place++) {
            for (String b : new String[] {"-1", "256", "MIN", "MAX"}) {
                String[] five = {"32", "32", "32", "32", "32"};
                five[place] = b;
                edges.sentence("Promise 6: BAD is any of the five, also behind n");
                for (int n : new int[] {1, 5}) {
                    edges.changesNothing(States.SOME, "feed(" + n + ", " + String.join(", ", five) + ")", BAD);
                }
                edges.sentence("Promise 6: BAD is told ahead of FULL");
                edges.changesNothing(States.FULL, "feed(1, " + String.join(", ", five) + ")", BAD);
            }
        }
        edges.changesNothing(States.FULL, "feed(6, 0, 0, 0, 0, 0)", BAD);
    }

    private static void forceTakesAndRefuses() {
        edges.sentence("Promise 8: the first and the last TEXT; which was");
        EveryoneWins x = States.FULL.get();
        edges.due(x, "force(5)", 4);
        edges.due(x, "count(3)", 5);
        edges.due(x, "force(5)", 5);
        edges.due(x, "force(0)", 5);
        edges.due(x, "count(3)", 0);
        edges.sentence("Promise 8: BAD, no such TEXT");
        edges.changesNothing(States.NOTHING, "force(1)", BAD);
        for (String t : new String[] {"-1", "3", "5", "MIN", "MAX"}) {
            edges.changesNothing(States.SOME, "force(" + t + ")", BAD);
        }
        edges.changesNothing(States.FULL, "force(6)", BAD);
        edges.sentence("Promise 8: a text with a FAULT is no TEXT");
        EveryoneWins faulty = new EveryoneWins();
        edges.due(faulty, "text()", -100);
        edges.due(faulty, "force(1)", BAD);
    }

    private static void asksTakes() {
        edges.sentence("Promise 9: the first and the last part, CHILD, RACE, WON of 0 .. 6");
        EveryoneWins x = Given.children(1, 2, 3, 4, 5, 6, 7, 1234);
        for (int r = 0; r < 6; r++) {
            x.race(57, 255);
        }
        Given.law(x, "yards race*10+won; worth speed+luck; none more*runners;");
        for (int wins = 0; wins <= 6; wins++) {
            edges.due(x, "asks(0, 7, 5, " + wins + ")", 50 + wins);
            edges.due(x, "asks(0, 7, -1, " + wins + ")", wins);
        }
        edges.due(x, "asks(1, 7, 5, 0)", 46);
        edges.due(x, "asks(1, 0, 5, 0)", 1);
        edges.due(x, "asks(2, 0, 5, 0)", 56);
        edges.sentence("Promise 9: of no RACE: more, runners, race 0");
        edges.due(x, "asks(2, 0, -1, 0)", 0);
    }

    private static void asksRefuses() {
        edges.sentence("Promise 9: -1000, none such");
        edges.changesNothing(States.NOTHING, "asks(0, 0, -1, 0)", -1000);
        for (String part : new String[] {"-1", "3", "MIN", "MAX"}) {
            edges.changesNothing(States.SOME, "asks(" + part + ", 0, 0, 0)", -1000);
        }
        for (String c : new String[] {"-1", "3", "MIN", "MAX"}) {
            edges.changesNothing(States.SOME, "asks(0, " + c + ", 0, 0)", -1000);
        }
        for (String r : new String[] {"-2", "2", "MIN", "MAX"}) {
            edges.changesNothing(States.SOME, "asks(0, 0, " + r + ", 0)", -1000);
        }
        for (String wins : new String[] {"-1", "7", "MIN", "MAX"}) {
            edges.changesNothing(States.SOME, "asks(0, 0, 0, " + wins + ")", -1000);
        }
        edges.changesNothing(States.FULL, "asks(0, 8, 0, 0)", -1000);
        edges.changesNothing(States.FULL, "asks(0, 0, 6, 0)", -1000);
    }

    private static void bounded(String e, int yards, int other) {
        EveryoneWins x = Given.children(0);
        Given.law(x, "yards " + e + ";worth " + e + ";none " + e + ";");
        edges.sentence("Terms: yards 0 .. 99, worth, none -99 .. 99, else the bound: " + e);
        edges.due(x, "count(3)", 1);
        edges.due(x, "asks(0, 0, -1, 0)", yards);
        edges.due(x, "asks(1, 0, -1, 0)", other);
        edges.due(x, "asks(2, 0, -1, 0)", other);
    }

    private static void asksBoundsWhatIsTold() {
        bounded("0", 0, 0);
        bounded("-1", 0, -1);
        bounded("98", 98, 98);
        bounded("99", 99, 99);
        bounded("100", 99, 99);
        bounded("9999", 99, 99);
        bounded("-98", 0, -98);
        bounded("-99", 0, -99);
        bounded("-100", 0, -99);
        bounded("-9999", 0, -99);
    }

    /** 8192 * 8192 * 32 is 2 to the 31st: of 32 bits the least number. */
    private static void asksWraps() {
        bounded("8192*8192*32", 0, -99);
        bounded("8192*8192*32-1", 99, 99);
        bounded("-(8192*8192*32)", 0, -99);
        bounded("-(8192*8192*32-1)-1", 0, -99);
        bounded("-(8192*8192*32-1)-2", 99, 99);
        bounded("8192*8192*32-1+1", 0, -99);
        bounded("8192*8192*64", 0, 0);
        bounded("8192*8192*64+5", 5, 5);
        bounded("8192*8192*-32", 0, -99);
        bounded("8192*8192*32<0", 1, 1);
        bounded("8192*8192*32=-(8192*8192*32)", 1, 1);
        bounded("not 8192*8192*64", 1, 1);
        bounded("8192*8192*32 and 1", 1, 1);
    }
}
