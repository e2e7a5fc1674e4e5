import java.util.List;
import java.util.function.Supplier;

/** Boundary cases of promises 22 to 26, sentence by sentence: told days. */
public final class EdgesOfToldDaysTests {
    private static final int BAD = EveryoneWins.BAD;
    private static final Edges edges = new Edges();

    public static void main(String[] args) {
        refusalsOfSheets();
        howManyItTells();
        judgeFindsTheFirst();
        judgeOfBits();
        judgeOfSorts();
        judgeOfNobody();
        kindsRefuses();
        kindsOfTheEnds();
        kindsOfLaterRaces();
        quickRefuses();
        quickOfAllAndNone();
        quickOfTheEnds();
        lawsOfAll();
        filmMakesShorts();
        filmOfTheEnds();
        filmRefuses();
        askingChangesNothing();
        edges.end();
    }

    private static EveryoneWins races(int many, int... speedLucks) {
        EveryoneWins x = Given.children(speedLucks);
        for (int r = 0; r < many; r++) {
            x.race(0, (1 << speedLucks.length) - 1);
        }
        return x;
    }

    private static void judged(EveryoneWins x, int want, int... bits) {
        for (int sort = 1; sort <= 2; sort++) {
            Given.sheet(x, 3, sort, bits);
            edges.due("sort " + sort, x, "judge(3)", want);
        }
    }

    private static void refusalsOfSheets() {
        String[][] calls = {{"judge(", ")"}, {"laws(", ")"}, {"kinds(", ", 0, 0)"}, {"quick(", ", 0, 0)"},
            {"kinds(", ", 9, 9)"}, {"quick(", ", 9, 9)"}};
        for (String[] call : calls) {
            edges.sentence("Promises 22 to 25: BAD, no such SHEET");
            for (String s : new String[] {"-1", "4", "MIN", "MAX"}) {
                edges.changesNothing(States.NOTHING, call[0] + s + call[1], BAD);
                edges.changesNothing(States.TOLD, call[0] + s + call[1], BAD);
            }
            edges.sentence("Promises 22 to 25: -11, a missing one, whatever else is wrong");
            for (int s = 0; s < 4; s++) {
                edges.changesNothing(States.NOTHING, call[0] + s + call[1], -11);
            }
            edges.changesNothing(States.TOLD, call[0] + "3" + call[1], -11);
            edges.sentence("Promises 22 to 25: BAD, it tells not as many as there are RACES, whatever else is wrong");
            for (int s = 0; s < 3; s++) {
                edges.changesNothing(States.SOME, call[0] + s + call[1], BAD);
            }
            edges.changesNothing(States.FULL, call[0] + "0" + call[1], BAD);
        }
    }

    private static void howManyItTells() {
        edges.sentence("Promise 22: as many as there are RACES, not one more, not one fewer");
        for (int races = 0; races <= 6; races++) {
            EveryoneWins x = races(races, 5000);
            for (int n : new int[] {0, 1, 2, 3, 4, 5, 6, 7, 40}) {
                Given.sheet(x, 0, 0, new int[n]);
                edges.due(x, "judge(0)", n != races ? BAD : races == 0 ? -1 : 0);
                edges.due(x, "laws(0)", n != races ? BAD : races == 0 ? 1 : 0);
                edges.due(x, "quick(0, 0, 0)", n != races ? BAD : races == 0 ? 100 : 0);
                edges.due(x, "quick(0, 0, 1)", n != races ? BAD : races == 0 ? 0 : -1);
                edges.due(x, "kinds(0, 0, 0)", n != races ? BAD : races == 0 ? -6 : races == 1 ? 32 : 0);
            }
        }
        edges.sentence("Promise 22: a row of none is not missing");
        EveryoneWins x = new EveryoneWins();
        edges.due(x, "judge(0)", -11);
        edges.due(x, "sheet(0, 2, 0)", 1);
        edges.due(x, "judge(0)", -1);
        edges.due(x, "sheet(0, -1, 0)", 1);
        edges.due(x, "judge(0)", -11);
    }

    private static void judgeFindsTheFirst() {
        edges.sentence("Promise 22: the first RACE that is otherwise, from the first to the last");
        for (int otherwise = 0; otherwise < 6; otherwise++) {
            EveryoneWins x = races(6, 5000, 4000);
            int[] bits = {1, 1, 1, 1, 1, 1};
            judged(x, -1, bits);
            bits[otherwise] = 2;
            judged(x, otherwise, bits);
            bits[5] = 0;
            judged(x, otherwise, bits);
            bits[0] = 3;
            judged(x, 0, bits);
        }
    }

    private static void judgeOfBits() {
        edges.sentence("Promise 22: each bit of who wins");
        for (int c = 0; c < 8; c++) {
            EveryoneWins x = races(0, 1, 1, 1, 1, 1, 1, 1, 1);
            x.race(0, 1 << c);
            judged(x, -1, 1 << c);
            judged(x, 0, 0);
            judged(x, 0, 255);
            judged(x, 0, 256 + (1 << c));
        }
        edges.sentence("Promise 22: numbers that are no bits of CHILDREN");
        EveryoneWins x = races(1, 5000);
        judged(x, 0, -1);
        judged(x, 0, 2);
        judged(x, 0, 3);
        judged(x, 0, 257);
        judged(x, -1, 1);
        Given.sheet(x, 0, 2, 65537);
        edges.due(x, "judge(0)", 0);
        Given.sheet(x, 0, 2, Integer.MIN_VALUE + 1);
        edges.due(x, "judge(0)", 0);
        edges.sentence("Promise 22: who wins, not who runs; nor who comes in first without a ribbon");
        x.enter(0, 1, 0);
        judged(x, 0, 1);
        judged(x, -1, 0);
    }

    private static void judgeOfSorts() {
        edges.sentence("Promise 32: of bytes the lowest 8 bits, with their sign: 128 is -128, not as told");
        EveryoneWins x = races(0, 1, 1, 1, 1, 1, 1, 1, 1);
        x.race(0, 64);
        Given.sheet(x, 0, 0, 64);
        edges.due(x, "judge(0)", -1);
        Given.sheet(x, 0, 0, 256 + 64);
        edges.due(x, "judge(0)", -1);
        Given.sheet(x, 0, 0, 64 - 256);
        edges.due(x, "judge(0)", -1);
        x.enter(0, 0, 128);
        Given.sheet(x, 0, 0, 128);
        edges.due(x, "judge(0)", 0);
        Given.sheet(x, 0, 0, -128);
        edges.due(x, "judge(0)", 0);
        edges.sentence("Promise 32: of shorts the lowest 16");
        Given.sheet(x, 0, 1, 65536 + 128);
        edges.due(x, "judge(0)", -1);
        Given.sheet(x, 0, 1, 128 - 65536);
        edges.due(x, "judge(0)", -1);
        Given.sheet(x, 0, 1, 256 + 128);
        edges.due(x, "judge(0)", 0);
        edges.sentence("Promise 32: of ints all");
        Given.sheet(x, 0, 2, 65536 + 128);
        edges.due(x, "judge(0)", 0);
        Given.sheet(x, 0, 2, 128);
        edges.due(x, "judge(0)", -1);
    }

    private static void judgeOfNobody() {
        edges.sentence("Promise 22: nobody runs");
        EveryoneWins x = new EveryoneWins();
        x.race(0, 0);
        judged(x, -1, 0);
        judged(x, 0, 1);
    }

    private static void kindsRefuses() {
        edges.sentence("Promise 23: -6, no such RACE, is told ahead of -7");
        for (String r : new String[] {"-1", "3", "6", "MIN", "MAX"}) {
            edges.changesNothing(States.TOLD, "kinds(0, " + r + ", 0)", -6);
            edges.changesNothing(States.TOLD, "kinds(0, " + r + ", 3)", -6);
        }
        edges.sentence("Promise 23: -6, as there are no RACES");
        EveryoneWins none = new EveryoneWins();
        none.sheet(0, 0, 0);
        edges.due(none, "kinds(0, 0, 0)", -6);
        edges.sentence("Promise 23: -7, sort");
        for (String sort : new String[] {"-1", "3", "10", "MIN", "MAX"}) {
            edges.changesNothing(States.TOLD, "kinds(0, 0, " + sort + ")", -7);
        }
    }

    private static void kindsOfTheEnds() {
        edges.sentence("Promise 23: all KINDS 0 .. 5, all MORE 0 .. 9, all RIBBONS 0 .. 3");
        EveryoneWins x = new EveryoneWins();
        x.race(59, 0);
        x.film(0);
        edges.row(x, "kinds(0, 0, ", 0, 63, 1023, 15);
        edges.sentence("Promise 23: none of them");
        x.cell(0, 0, 1);
        edges.row(x, "kinds(0, 0, ", 0, 0, 0, 0);
        edges.sentence("Promise 23: the last KIND alone");
        // 1 wins the CHEER: 7 * 5 modulo 31 is 4, 7 * 4 is 28; and the SLOW; in the SACK they are alike.
        EveryoneWins cheer = Given.children(500, 400);
        cheer.race(0, 3);
        Given.sheet(cheer, 0, 1, 2);
        edges.due(cheer, "kinds(0, 0, 0)", 16 + 32);
        cheer.put(0, 1, 1);
        cheer.put(1, 1, 0);
        // LUCK 1 counts 3 in the CHEER: 7 against 28; the SLOW is a tie, the BACKWARD is not.
        edges.due(cheer, "kinds(0, 0, 0)", 8 + 32);
        cheer.put(0, 0, 4);
        cheer.put(0, 1, 0);
        cheer.put(1, 0, 3);
        edges.due(cheer, "kinds(0, 0, 0)", 8 + 16);
        cheer.put(1, 1, 1);
        cheer.put(0, 1, 1);
        // With LUCK 1 each the CHEER is 31 and 24, modulo 31: 0 and 24.
        edges.due(cheer, "kinds(0, 0, 0)", 8 + 16 + 32);
        Given.sheet(cheer, 0, 1, 1);
        edges.due(cheer, "kinds(0, 0, 0)", 1 + 2 + 4);
        cheer.put(0, 0, 9);
        cheer.put(1, 0, 4);
        cheer.put(0, 1, 0);
        cheer.put(1, 1, 30);
        // 63 and 28 + 90, modulo 31: 1 and 25.
        edges.due(cheer, "kinds(0, 0, 0)", 1 + 8);
        edges.sentence("Promise 23: the last MORE alone, the first alone");
        EveryoneWins more = Given.children(5000, 4900);
        more.race(5, 3);
        Given.law(more, "yards 9 * (more = 9) * (speed = 49); worth 0; none 0;");
        Given.sheet(more, 0, 1, 2);
        edges.due(more, "kinds(0, 0, 1)", 512);
        Given.law(more, "yards 9 * (more = 0) * (speed = 49); worth 0; none 0;");
        edges.due(more, "kinds(0, 0, 1)", 1);
        edges.sentence("Promise 23: RIBBONS 3 alone, 0 alone");
        EveryoneWins three = races(1, 5000, 4000, 3000, 2000);
        Given.sheet(three, 0, 1, 7);
        edges.due(three, "kinds(0, 0, 2)", 8);
        Given.sheet(three, 0, 1, 0);
        edges.due(three, "kinds(0, 0, 2)", 1);
        Given.sheet(three, 0, 1, 15);
        edges.due(three, "kinds(0, 0, 2)", 0);
        edges.sentence("Promise 23: RIBBONS that do not matter");
        EveryoneWins egg = Given.children(0, 0);
        egg.race(20, 3);
        egg.film(0);
        edges.due(egg, "kinds(0, 0, 2)", 15);
    }

    private static void kindsOfLaterRaces() {
        edges.sentence("Promise 23: of the last RACE");
        EveryoneWins x = races(6, 5000, 4000);
        Given.sheet(x, 0, 1, 1, 1, 1, 1, 1, 3);
        edges.due(x, "kinds(0, 5, 2)", 4 + 8);
        edges.due(x, "kinds(0, 4, 2)", 0);
        edges.due(x, "kinds(0, 6, 2)", -6);
    }

    private static void quickRefuses() {
        edges.sentence("Promise 24: -5, no such CHILD, is told ahead of -7");
        for (String c : new String[] {"-1", "3", "8", "MIN", "MAX"}) {
            edges.changesNothing(States.TOLD, "quick(0, " + c + ", 0)", -5);
            edges.changesNothing(States.TOLD, "quick(0, " + c + ", 2)", -5);
        }
        edges.sentence("Promise 24: -5, as there are no CHILDREN");
        EveryoneWins none = new EveryoneWins();
        none.sheet(0, 0, 0);
        edges.due(none, "quick(0, 0, 0)", -5);
        edges.sentence("Promise 24: -7, sortWhat");
        for (String sortWhat : new String[] {"-1", "-10", "2", "3", "9", "12", "19", "22", "29", "30", "31", "100", "MIN", "MAX"}) {
            edges.changesNothing(States.TOLD, "quick(0, 0, " + sortWhat + ")", -7);
        }
    }

    private static void quicks(EveryoneWins x, int c, long... wants) {
        String ahead = "quick(0, " + c + ", ";
        edges.row(x, ahead, 0, wants[0], wants[1]);
        edges.row(x, ahead, 10, wants[2], wants[3]);
        edges.row(x, ahead, 20, wants[4], wants[5]);
    }

    private static void quickOfAllAndNone() {
        edges.sentence("Promise 24: all of 0 .. 99; none: -1");
        EveryoneWins x = Given.children(5050, 5050);
        x.race(0, 1);
        x.film(0);
        quicks(x, 0, 100, 0, 100, 0, 100, 0);
        quicks(x, 1, 100, 0, 100, 0, 100, 0);
        x.cell(0, 0, 2);
        quicks(x, 0, 0, -1, 0, -1, 0, -1);
        quicks(x, 1, 0, -1, 0, -1, 0, -1);
        edges.sentence("Promise 24: without RACES");
        EveryoneWins none = Given.children(5050);
        none.film(0);
        quicks(none, 0, 100, 0, 100, 0, 100, 0);
    }

    private static void quickOfTheEnds() {
        edges.sentence("Promise 24: 99 alone");
        EveryoneWins x = Given.children(9898, 0);
        x.race(0, 3);
        Given.sheet(x, 0, 1, 2);
        quicks(x, 1, 1, 99, 0, -1, 1, 99);
        edges.sentence("Promise 24: 0 alone");
        EveryoneWins y = Given.children(5050, 0);
        y.race(0, 3);
        Given.sheet(y, 0, 1, 2);
        quicks(y, 0, 0, -1, 0, -1, 0, -1);
        y.put(1, 0, 1);
        quicks(y, 0, 1, 0, 0, -1, 0, -1);
        edges.sentence("Promise 24: LUCKS");
        EveryoneWins egg = Given.children(1098, 1000);
        egg.race(20, 3);
        Given.sheet(egg, 0, 1, 2);
        quicks(egg, 1, 0, -1, 1, 99, 1, 99);
        egg.put(0, 1, 99);
        quicks(egg, 1, 0, -1, 0, -1, 0, -1);
        edges.sentence("Promise 24: YARDS anyhow, whatever there are");
        EveryoneWins yards = Given.children(1000, 0);
        yards.race(0, 3);
        yards.put(1, 2, 50);
        Given.sheet(yards, 0, 1, 2);
        edges.row(yards, "quick(0, 1, ", 20, 89, 11);
        edges.due(yards, "told(1, 2)", 50);
        edges.sentence("Promise 24: of the last CHILD");
        EveryoneWins last = Given.children(9700, 0, 0, 0, 0, 0, 0, 0);
        last.race(0, 255);
        Given.sheet(last, 0, 1, 128);
        edges.row(last, "quick(0, 7, ", 0, 2, 98);
        edges.sentence("Promise 24: those between, too");
        // The CHEER: 7 times SPEED modulo 31 against 15, at 0 YARDS, of like ones the least number.
        EveryoneWins cheer = Given.children(0, 5);
        cheer.race(50, 3);
        Given.sheet(cheer, 0, 1, 1);
        long many = 0;
        long least = -1;
        for (int speed = 99; speed >= 0; speed--) {
            if (7 * speed % 31 >= 15) {
                many++;
                least = speed;
            }
        }
        edges.row(cheer, "quick(0, 0, ", 0, many, least);
    }

    private static void lawsOfAll() {
        edges.sentence("Promise 25: of TEXTS 0 .. 5 all, none, the last alone");
        EveryoneWins x = races(1, 5000, 4000);
        for (int t = 1; t <= 5; t++) {
            Given.text(x, "yards 20 * (speed = " + (t == 5 ? 40 : 50) + "); worth 0; none 0;");
        }
        Given.sheet(x, 0, 1, 2);
        edges.due(x, "laws(0)", 32);
        Given.sheet(x, 0, 1, 1);
        edges.due(x, "laws(0)", 31);
        Given.sheet(x, 0, 1, 3);
        edges.due(x, "laws(0)", 0);
        x.enter(0, 1, 2);
        edges.due(x, "laws(0)", 63);
        edges.sentence("Promise 25: THE LAW stays");
        for (int t = 0; t <= 5; t++) {
            x.force(t);
            edges.due(x, "laws(0)", 63);
            edges.due(x, "count(3)", t);
        }
        edges.sentence("Promise 25: a new object's one TEXT");
        EveryoneWins none = new EveryoneWins();
        none.sheet(0, 0, 0);
        edges.due(none, "laws(0)", 1);
        none.race(0, 0);
        none.sheet(0, 0, 1);
        none.cell(0, 0, 1);
        edges.due(none, "laws(0)", 0);
    }

    private static void filmMakesShorts() {
        edges.sentence("Promise 26: truly: of shorts, as many as RACES, whatever it was");
        for (int sort = -1; sort <= 2; sort++) {
            EveryoneWins x = races(3, 5000, 4000);
            x.enter(1, 1, 2);
            edges.due(x, "sheet(2, " + sort + ", 40)", 1);
            edges.due(x, "film(2)", 4);
            edges.due(x, "judge(2)", -1);
            edges.due(x, "cell(2, 3, 0)", -12);
            edges.due(x, "childrenBy(2, 0, 0, 0)", -13);
            edges.due(x, "childrenBy(2, 2, 0, 0)", -13);
            edges.due(x, "childrenBy(2, 1, 0, 3)", 3);
            edges.row(x, "told(2, ", 0, 0, 1);
            edges.row(x, "told(3, ", 0, 0, 3);
            edges.row(x, "told(4, ", 0, 0, 1);
            edges.due(x, "cell(2, 0, 65537)", 1);
            edges.due(x, "judge(2)", -1);
        }
        edges.sentence("Promise 26: another SHEET stays");
        EveryoneWins x = races(3, 5000, 4000);
        for (int s = 0; s < 4; s++) {
            x.sheet(s, 2, s + 7);
        }
        x.film(1);
        for (int s = 0; s < 4; s++) {
            edges.due(x, "judge(" + s + ")", s == 1 ? -1 : BAD);
        }
    }

    private static void filmOfTheEnds() {
        edges.sentence("Promise 26: no RACES");
        EveryoneWins none = Given.children(1);
        edges.due(none, "film(3)", 0);
        edges.due(none, "judge(3)", -1);
        edges.due(none, "cell(3, 0, 0)", -12);
        edges.sentence("Promise 26: 6 RACES, 8 CHILDREN, 4 ribbons in each");
        EveryoneWins all = Given.children(1, 2, 3, 4, 5, 6, 7, 8);
        for (int r = 0; r < 6; r++) {
            all.race(50, 255);
        }
        edges.due(all, "film(0)", 24);
        edges.due(all, "judge(0)", -1);
        edges.due(all, "cell(0, 5, 128)", 1);
        edges.due(all, "judge(0)", 5);
        edges.due(all, "cell(0, 6, 0)", -12);
        edges.sentence("Promise 26: a RACE of no RIBBONS");
        EveryoneWins x = races(2, 5000);
        x.enter(0, 1, 0);
        x.enter(1, 1, 0);
        edges.due(x, "film(0)", 0);
        edges.due(x, "judge(0)", -1);
        edges.due(x, "cell(0, 1, 0)", 1);
        edges.due(x, "judge(0)", -1);
    }

    private static void filmRefuses() {
        edges.sentence("Promise 26: BAD, no such SHEET");
        for (String s : new String[] {"-1", "4", "MIN", "MAX"}) {
            for (Supplier<EveryoneWins> made : List.of(States.NOTHING, States.SOME, States.FULL)) {
                edges.changesNothing(made, "film(" + s + ")", BAD);
            }
        }
    }

    private static void askingChangesNothing() {
        edges.sentence("Promises 22 to 25: what is asked changes nothing");
        for (int s = 0; s < 3; s++) {
            edges.samePicture(States.TOLD, "judge(" + s + ")");
            edges.samePicture(States.TOLD, "laws(" + s + ")");
            for (int k = 0; k < 3; k++) {
                for (int sort = 0; sort < 3; sort++) {
                    edges.samePicture(States.TOLD, "kinds(" + s + ", " + k + ", " + sort + ")");
                    edges.samePicture(States.TOLD, "quick(" + s + ", " + k + ", " + 10 * sort + ")");
                    edges.samePicture(States.TOLD, "quick(" + s + ", " + k + ", " + (10 * sort + 1) + ")");
                }
            }
        }
    }
}
