import java.util.function.Supplier;

/** Boundary cases of promises 31 to 35, sentence by sentence: the host. */
public final class EdgesOfHostTests {
    private static final int BAD = EveryoneWins.BAD;
    private static final int[] ROW = {11, 22, 33, 44, 55};
    private static final Edges edges = new Edges();

    public static void main(String[] args) {
        sheetTakes();
        sheetIsAllNought();
        sheetMissing();
        sheetRefuses();
        cellTakes();
        cellCuts();
        cellRefuses();
        copyTakes();
        copyOfItsOwn();
        copyAsTheyWere();
        copyOfNone();
        copyRefusesSheets();
        copyRefusesPlaces();
        childrenByTakes();
        childrenByLeavesOut();
        childrenByOutside();
        childrenByRefuses();
        takenOfKinds();
        takenOfPlaces();
        takenRefuses();
        edges.end();
    }

    /** Each number of a SHEET of n, as a CHILD by it tells; -1 if it is none of 0 .. 9999; there is room for one. */
    private static void row(EveryoneWins x, int s, int sort, long... wants) {
        String of = "SHEET " + s;
        int c = x.count(1);
        int races = x.image();
        for (int i = 0; i < wants.length; i++) {
            edges.due(of, x, "childrenBy(" + s + ", " + sort + ", " + i + ", 1)", wants[i] < 0 ? 0 : 1);
            if (wants[i] >= 0) {
                edges.row(x, "told(" + c + ", ", 0, wants[i] / 100, wants[i] % 100, 0);
            }
            edges.due(of, x, "back()", races);
        }
        edges.due(of, x, "cell(" + s + ", " + wants.length + ", 0)", -12);
    }

    private static EveryoneWins rows(int sort) {
        EveryoneWins x = new EveryoneWins();
        Given.sheet(x, 0, sort, ROW);
        Given.sheet(x, 1, sort, 66, 77, 88);
        Given.sheet(x, 2, sort);
        return x;
    }

    private static void sheetTakes() {
        edges.sentence("Promise 31: SHEETS 0 .. 3, sorts 0 .. 2, sizes 0 .. 40: 1");
        for (int s = 0; s < 4; s++) {
            for (int sort = 0; sort < 3; sort++) {
                for (int n : new int[] {0, 1, 2, 39, 40}) {
                    EveryoneWins x = new EveryoneWins();
                    edges.due(x, "sheet(" + s + ", " + sort + ", " + n + ")", 1);
                    edges.due(x, "cell(" + s + ", " + n + ", 0)", -12);
                    edges.due(x, "cell(" + s + ", " + (n - 1) + ", 0)", n == 0 ? -12 : 1);
                    for (int other = 0; other < 4; other++) {
                        edges.due(x, "cell(" + other + ", 0, 0)", other != s ? -11 : n == 0 ? -12 : 1);
                    }
                    for (int of = 0; of < 3; of++) {
                        edges.due(x, "childrenBy(" + s + ", " + of + ", 0, 0)", of == sort ? 0 : -13);
                    }
                }
            }
        }
    }

    private static void sheetIsAllNought() {
        edges.sentence("Promise 31: all 0, also where another row was");
        for (int was = 0; was < 3; was++) {
            for (int sort = 0; sort < 3; sort++) {
                EveryoneWins x = rows(was);
                edges.due(x, "sheet(0, " + sort + ", 5)", 1);
                row(x, 0, sort, 0, 0, 0, 0, 0);
                edges.due(x, "sheet(1, " + sort + ", 2)", 1);
                row(x, 1, sort, 0, 0);
                edges.due(x, "sheet(1, " + sort + ", 4)", 1);
                row(x, 1, sort, 0, 0, 0, 0);
                edges.due(x, "sheet(2, " + sort + ", 1)", 1);
                row(x, 2, sort, 0);
            }
        }
    }

    private static void sheetMissing() {
        edges.sentence("Promise 31: missing (sort -1: n does not matter): 1");
        for (String n : new String[] {"0", "-1", "40", "41", "MIN", "MAX"}) {
            for (int s = 0; s < 4; s++) {
                EveryoneWins x = rows(1);
                edges.due(x, "sheet(" + s + ", -1, " + n + ")", 1);
                edges.due(x, "cell(" + s + ", 0, 0)", -11);
                edges.due(x, "judge(" + s + ")", -11);
                edges.due(x, "sheet(" + s + ", -1, " + n + ")", 1);
                edges.due(x, "sheet(" + s + ", 1, 1)", 1);
                row(x, s, 1, 0);
            }
        }
    }

    private static void sheetRefuses() {
        edges.sentence("Promise 31: BAD, no such SHEET, whatever else is wrong");
        for (String s : new String[] {"-1", "4", "MIN", "MAX"}) {
            edges.changesNothing(States.SOME, "sheet(" + s + ", 0, 1)", BAD);
            edges.changesNothing(States.SOME, "sheet(" + s + ", -1, 1)", BAD);
            edges.changesNothing(States.SOME, "sheet(" + s + ", 0, -1)", BAD);
        }
        edges.sentence("Promise 31: BAD, no such sort, whatever else is wrong");
        for (String sort : new String[] {"-2", "3", "MIN", "MAX"}) {
            edges.changesNothing(States.SOME, "sheet(0, " + sort + ", 1)", BAD);
            edges.changesNothing(States.SOME, "sheet(1, " + sort + ", -1)", BAD);
        }
        for (int sort = 0; sort < 3; sort++) {
            edges.sentence("Promise 31: BAD, n above 40");
            for (String n : new String[] {"41", "MAX"}) {
                edges.changesNothing(States.SOME, "sheet(0, " + sort + ", " + n + ")", BAD);
                edges.changesNothing(States.SOME, "sheet(3, " + sort + ", " + n + ")", BAD);
            }
            edges.sentence("Promise 31: -14, n below 0");
            for (String n : new String[] {"-1", "MIN"}) {
                edges.changesNothing(States.SOME, "sheet(0, " + sort + ", " + n + ")", -14);
                edges.changesNothing(States.SOME, "sheet(3, " + sort + ", " + n + ")", -14);
            }
        }
    }

    private static void cellTakes() {
        edges.sentence("Promise 32: the first and the last place; no other is changed: 1");
        for (int sort = 0; sort < 3; sort++) {
            EveryoneWins x = rows(sort);
            edges.due(x, "cell(0, 0, 1)", 1);
            edges.due(x, "cell(0, 4, 5)", 1);
            row(x, 0, sort, 1, 22, 33, 44, 5);
            row(x, 1, sort, 66, 77, 88);
            EveryoneWins forty = new EveryoneWins();
            forty.sheet(3, sort, 40);
            edges.due(forty, "cell(3, 39, 99)", 1);
            edges.due(forty, "childrenBy(3, " + sort + ", 38, 2)", 2);
            edges.row(forty, "told(0, ", 0, 0, 0);
            edges.row(forty, "told(1, ", 0, 0, 99);
        }
    }

    private static void cut(int sort, String v, long want) {
        EveryoneWins x = new EveryoneWins();
        x.sheet(0, sort, 1);
        edges.due(x, "cell(0, 0, " + v + ")", 1);
        edges.sentence("Promise 32: sort " + sort + ": " + v);
        row(x, 0, sort, want);
    }

    /** -1: what becomes of it is below 0, or above 9999, so that it is no CHILD. */
    private static void cellCuts() {
        cut(0, "127", 127);
        cut(0, "128", -1);
        cut(0, "129", -1);
        cut(0, "255", -1);
        cut(0, "256", 0);
        cut(0, "257", 1);
        cut(0, "383", 127);
        cut(0, "384", -1);
        cut(0, "-1", -1);
        cut(0, "-128", -1);
        cut(0, "-129", 127);
        cut(0, "-256", 0);
        cut(0, "9999", 15);
        cut(0, "MAX", -1);
        cut(0, "MIN", 0);
        cut(1, "9999", 9999);
        cut(1, "10000", -1);
        cut(1, "32767", -1);
        cut(1, "32768", -1);
        cut(1, "65535", -1);
        cut(1, "65536", 0);
        cut(1, "75535", 9999);
        cut(1, "75536", -1);
        cut(1, "-1", -1);
        cut(1, "-65536", 0);
        cut(1, "-65535", 1);
        cut(1, "-55537", 9999);
        cut(1, "MAX", -1);
        cut(1, "MIN", 0);
        cut(2, "9999", 9999);
        cut(2, "10000", -1);
        cut(2, "65536", -1);
        cut(2, "75535", -1);
        cut(2, "-1", -1);
        cut(2, "256", 256);
        cut(2, "MAX", -1);
        cut(2, "MIN", -1);
    }

    private static void cellRefuses() {
        edges.sentence("Promise 32: BAD, no such SHEET, whatever else is wrong");
        for (String s : new String[] {"-1", "4", "MIN", "MAX"}) {
            edges.changesNothing(States.SOME, "cell(" + s + ", 0, 0)", BAD);
            edges.changesNothing(States.SOME, "cell(" + s + ", -1, 0)", BAD);
        }
        edges.sentence("Promise 32: -11, a missing one, whatever the place is");
        for (String i : new String[] {"0", "-1", "40", "MIN", "MAX"}) {
            edges.changesNothing(States.SOME, "cell(3, " + i + ", 7)", -11);
            edges.changesNothing(States.NOTHING, "cell(0, " + i + ", 7)", -11);
        }
        edges.sentence("Promise 32: -12, a place outside");
        String[][] outside = {{"-1", "5", "40", "MIN", "MAX"}, {"-1", "3", "4", "MIN", "MAX"}, {"-1", "7", "39", "MIN", "MAX"}};
        for (int s = 0; s < 3; s++) {
            for (String i : outside[s]) {
                edges.changesNothing(States.SOME, "cell(" + s + ", " + i + ", 7)", -12);
            }
            edges.changesNothing(States.FULL, "cell(" + s + ", 40, 7)", -12);
        }
        edges.sentence("Promise 32: -12, in a row of none");
        EveryoneWins none = rows(0);
        edges.due(none, "cell(2, 0, 1)", -12);
        edges.due(none, "cell(2, -1, 1)", -12);
    }

    private static void copyTakes() {
        edges.sentence("Promise 33: to another one's place: n");
        for (int sort = 0; sort < 3; sort++) {
            EveryoneWins x = rows(sort);
            edges.due(x, "copy(0, 2, 1, 0, 3)", 3);
            row(x, 1, sort, 33, 44, 55);
            row(x, 0, sort, 11, 22, 33, 44, 55);
            edges.due(x, "copy(0, 0, 1, 2, 1)", 1);
            row(x, 1, sort, 33, 44, 11);
            edges.due(x, "copy(1, 0, 0, 2, 3)", 3);
            row(x, 0, sort, 11, 22, 33, 44, 11);
        }
        edges.sentence("Promise 33: 40 numbers");
        EveryoneWins x = States.FULL.get();
        edges.due(x, "copy(3, 0, 0, 0, 40)", 40);
        edges.due(x, "back()", 5);
        edges.due(x, "childrenBy(0, 0, 39, 1)", 1);
        edges.row(x, "told(7, ", 0, 1, 20);
    }

    private static void copyOfItsOwn() {
        edges.sentence("Promise 33: to its own places");
        for (int sort = 0; sort < 3; sort++) {
            EveryoneWins x = rows(sort);
            edges.due(x, "copy(0, 0, 0, 4, 1)", 1);
            row(x, 0, sort, 11, 22, 33, 44, 11);
            edges.due(x, "copy(0, 3, 0, 0, 2)", 2);
            row(x, 0, sort, 44, 11, 33, 44, 11);
            edges.due(x, "copy(0, 0, 0, 0, 5)", 5);
            row(x, 0, sort, 44, 11, 33, 44, 11);
        }
    }

    private static void copyAsTheyWere() {
        edges.sentence("Promise 33: as they were, though their own places are written over");
        for (int sort = 0; sort < 3; sort++) {
            EveryoneWins x = rows(sort);
            edges.due(x, "copy(0, 0, 0, 1, 4)", 4);
            row(x, 0, sort, 11, 11, 22, 33, 44);
            EveryoneWins y = rows(sort);
            edges.due(y, "copy(0, 1, 0, 0, 4)", 4);
            row(y, 0, sort, 22, 33, 44, 55, 55);
            EveryoneWins z = rows(sort);
            edges.due(z, "copy(0, 0, 0, 2, 3)", 3);
            row(z, 0, sort, 11, 22, 11, 22, 33);
        }
        edges.sentence("Promise 33: numbers that are cut, or below 0, as they are");
        EveryoneWins x = Given.children(1, 1, 1, 1, 1, 1, 1, 1);
        x.race(0, 64);
        Given.sheet(x, 0, 0, 256 + 64, -1);
        Given.sheet(x, 1, 0, 0);
        edges.due(x, "copy(0, 0, 1, 0, 1)", 1);
        edges.due(x, "judge(1)", -1);
        edges.due(x, "copy(0, 1, 1, 0, 1)", 1);
        edges.due(x, "judge(1)", 0);
    }

    private static void copyOfNone() {
        edges.sentence("Promise 33: 0 numbers, from places 0 .. the size");
        Supplier<EveryoneWins> made = States.SOME;
        edges.changesNothing(made, "copy(0, 0, 0, 0, 0)", 0);
        edges.changesNothing(made, "copy(0, 5, 0, 5, 0)", 0);
        edges.changesNothing(made, "copy(0, 6, 0, 0, 0)", -12);
        edges.changesNothing(made, "copy(0, 0, 0, 6, 0)", -12);
        edges.changesNothing(made, "copy(0, -1, 0, 0, 0)", -12);
        edges.changesNothing(made, "copy(0, 0, 0, -1, 0)", -12);
        EveryoneWins none = rows(2);
        edges.due(none, "copy(2, 0, 2, 0, 0)", 0);
        edges.due(none, "copy(2, 0, 0, 5, 0)", 0);
        edges.due(none, "copy(2, 0, 0, 0, 1)", -12);
        edges.due(none, "copy(0, 0, 2, 0, 1)", -12);
        edges.due(none, "copy(2, 1, 0, 0, 0)", -12);
    }

    private static void copyRefusesSheets() {
        edges.sentence("Promise 33: BAD, no such SHEETS, whatever else is wrong");
        for (String s : new String[] {"-1", "4", "MIN", "MAX"}) {
            for (String other : new String[] {"0", "3", "4", "-1"}) {
                edges.changesNothing(States.SOME, "copy(" + s + ", 0, " + other + ", 0, 1)", BAD);
                edges.changesNothing(States.SOME, "copy(" + other + ", 0, " + s + ", 0, -1)", BAD);
            }
        }
        edges.sentence("Promise 33: -11, one of them is missing, whatever else is wrong");
        for (int s = 0; s < 4; s++) {
            edges.changesNothing(States.SOME, "copy(3, 0, " + s + ", 0, 1)", -11);
            edges.changesNothing(States.SOME, "copy(" + s + ", 0, 3, 0, 1)", -11);
            edges.changesNothing(States.SOME, "copy(" + s + ", 9, 3, 9, -1)", -11);
        }
        edges.sentence("Promise 33: -13, unlike sorts, whatever else is wrong");
        for (int s = 0; s < 3; s++) {
            for (int other = 0; other < 3; other++) {
                if (s != other) {
                    edges.changesNothing(States.SOME, "copy(" + s + ", 0, " + other + ", 0, 1)", -13);
                    edges.changesNothing(States.SOME, "copy(" + s + ", -1, " + other + ", 0, 1)", -13);
                    edges.changesNothing(States.SOME, "copy(" + s + ", 0, " + other + ", 0, -1)", -13);
                    edges.changesNothing(States.SOME, "copy(" + s + ", 0, " + other + ", 0, 0)", -13);
                }
            }
        }
    }

    private static void copyRefusesPlaces() {
        edges.sentence("Promise 33: -12, n below 0");
        for (String n : new String[] {"-1", "-5", "MIN"}) {
            edges.changesNothing(States.SOME, "copy(0, 0, 0, 0, " + n + ")", -12);
            edges.changesNothing(States.SOME, "copy(0, 5, 0, 5, " + n + ")", -12);
        }
        edges.sentence("Promise 33: -12, places outside of the one, of the other");
        String[] outside = {"0, 0, 0, 0, 6", "0, 1, 0, 0, 5", "0, 0, 0, 1, 5", "0, 5, 0, 0, 1", "0, 0, 0, 5, 1", "0, -1, 0, 0, 2",
            "0, 0, 0, -1, 2", "0, MIN, 0, 0, 1", "0, 0, 0, MIN, 1", "0, MAX, 0, 0, 1", "0, 0, 0, MAX, 1", "0, 0, 0, 0, MAX",
            "0, 1, 0, 0, MAX", "0, 0, 0, 1, MAX", "0, MAX, 0, MAX, MAX", "0, MIN, 0, MIN, MIN", "0, MIN, 0, 0, MAX"};
        for (String o : outside) {
            edges.changesNothing(States.SOME, "copy(" + o + ")", -12);
        }
        edges.sentence("Promise 33: -12, in none of the rows a number came");
        EveryoneWins x = rows(2);
        edges.due(x, "copy(0, 0, 1, 0, 4)", -12);
        row(x, 1, 2, 66, 77, 88);
        edges.due(x, "copy(0, 3, 1, 0, 3)", -12);
        row(x, 1, 2, 66, 77, 88);
    }

    private static void childrenByTakes() {
        edges.sentence("Promise 34: from a place on, one by one, n of them (0 .. 8)");
        for (int sort = 0; sort < 3; sort++) {
            EveryoneWins x = rows(sort);
            edges.due(x, "childrenBy(0, " + sort + ", 1, 3)", 3);
            edges.row(x, "told(0, ", 0, 0, 22, 0);
            edges.row(x, "told(1, ", 0, 0, 33, 0);
            edges.row(x, "told(2, ", 0, 0, 44, 0);
            edges.due(x, "count(1)", 3);
            row(x, 0, sort, 11, 22, 33, 44, 55);
            edges.due(x, "childrenBy(0, " + sort + ", 0, 5)", 5);
            edges.due(x, "count(1)", 8);
            edges.row(x, "told(3, ", 0, 0, 11);
            edges.row(x, "told(7, ", 0, 0, 55);
        }
        edges.sentence("Promise 34: 8 of them");
        EveryoneWins eight = new EveryoneWins();
        Given.sheet(eight, 0, 1, 1, 2, 3, 4, 5, 6, 7, 8, 9);
        edges.due(eight, "childrenBy(0, 1, 1, 8)", 8);
        edges.row(eight, "told(7, ", 0, 0, 9);
        edges.sentence("Promise 34: 0 of them");
        edges.changesNothing(States.SOME, "childrenBy(2, 2, 0, 0)", 0);
        edges.changesNothing(States.SOME, "childrenBy(2, 2, 7, 0)", 0);
        edges.changesNothing(States.FULL, "childrenBy(0, 0, 0, 0)", 0);
    }

    private static void childrenByLeavesOut() {
        edges.sentence("Promise 34: others are left out: as of child() BAD");
        EveryoneWins x = new EveryoneWins();
        Given.sheet(x, 0, 2, -1, 0, 10000, 9999, Integer.MAX_VALUE, Integer.MIN_VALUE, 100);
        edges.due(x, "childrenBy(0, 2, 0, 7)", 3);
        edges.due(x, "count(1)", 3);
        edges.row(x, "told(0, ", 0, 0, 0);
        edges.row(x, "told(1, ", 0, 99, 99);
        edges.row(x, "told(2, ", 0, 1, 0);
        edges.sentence("Promise 34: as of child() FULL");
        EveryoneWins six = Given.children(1, 2, 3, 4, 5, 6);
        Given.sheet(six, 0, 2, 7, -1, 8, 9, 10);
        edges.due(six, "childrenBy(0, 2, 0, 5)", 2);
        edges.row(six, "told(6, ", 0, 0, 7);
        edges.row(six, "told(7, ", 0, 0, 8);
        edges.due(six, "childrenBy(0, 2, 0, 5)", 0);
        edges.changesNothing(States.FULL, "childrenBy(0, 0, 0, 8)", 0);
    }

    private static void childrenByOutside() {
        edges.sentence("Promise 34: -12: what stood ahead came");
        EveryoneWins x = rows(2);
        edges.due(x, "childrenBy(0, 2, 3, 3)", -12);
        edges.due(x, "count(1)", 2);
        edges.row(x, "told(0, ", 0, 0, 44);
        edges.row(x, "told(1, ", 0, 0, 55);
        edges.due(x, "childrenBy(0, 2, 0, 6)", -12);
        edges.due(x, "count(1)", 7);
        edges.sentence("Promise 34: -12, though all are FULL by then");
        edges.due(x, "childrenBy(0, 2, 3, 3)", -12);
        edges.due(x, "count(1)", 8);
        edges.changesNothing(States.FULL, "childrenBy(0, 0, 33, 8)", -12);
        edges.due(States.FULL.get(), "childrenBy(0, 0, 32, 8)", 0);
        edges.sentence("Promise 34: -12: nothing stood ahead");
        for (String at : new String[] {"-1", "-8", "7", "8", "40", "MIN", "MAX"}) {
            edges.changesNothing(States.SOME, "childrenBy(2, 2, " + at + ", 1)", -12);
            edges.changesNothing(States.SOME, "childrenBy(2, 2, " + at + ", 8)", -12);
        }
        EveryoneWins none = rows(0);
        edges.due(none, "childrenBy(2, 0, 0, 1)", -12);
        edges.due(none, "count(1)", 0);
    }

    private static void childrenByRefuses() {
        edges.sentence("Promise 34: BAD, no such SHEET, whatever else is wrong");
        for (String s : new String[] {"-1", "4", "MIN", "MAX"}) {
            edges.changesNothing(States.SOME, "childrenBy(" + s + ", 0, 0, 1)", BAD);
            edges.changesNothing(States.SOME, "childrenBy(" + s + ", 0, -1, 1)", BAD);
        }
        edges.sentence("Promise 34: BAD, no such sort, whatever else is wrong");
        for (String sort : new String[] {"-1", "3", "MIN", "MAX"}) {
            edges.changesNothing(States.SOME, "childrenBy(0, " + sort + ", 0, 1)", BAD);
            edges.changesNothing(States.SOME, "childrenBy(3, " + sort + ", -1, 1)", BAD);
        }
        edges.sentence("Promise 34: BAD, n, whatever else is wrong");
        for (String n : new String[] {"-1", "9", "MIN", "MAX"}) {
            edges.changesNothing(States.SOME, "childrenBy(2, 2, 0, " + n + ")", BAD);
            edges.changesNothing(States.SOME, "childrenBy(3, 2, -1, " + n + ")", BAD);
            edges.changesNothing(States.SOME, "childrenBy(2, 1, -1, " + n + ")", BAD);
        }
        edges.sentence("Promise 34: -11, a missing one, whatever the sort and the place are");
        for (int sort = 0; sort < 3; sort++) {
            edges.changesNothing(States.SOME, "childrenBy(3, " + sort + ", 0, 1)", -11);
            edges.changesNothing(States.SOME, "childrenBy(3, " + sort + ", -1, 0)", -11);
        }
        edges.sentence("Promise 34: -13, of another sort, whatever the place is");
        for (int s = 0; s < 3; s++) {
            for (int sort = 0; sort < 3; sort++) {
                if (s != sort) {
                    edges.changesNothing(States.SOME, "childrenBy(" + s + ", " + sort + ", 0, 1)", -13);
                    edges.changesNothing(States.SOME, "childrenBy(" + s + ", " + sort + ", -1, 1)", -13);
                    edges.changesNothing(States.SOME, "childrenBy(" + s + ", " + sort + ", 40, 0)", -13);
                }
            }
        }
    }

    private static void takenOfKinds() {
        edges.sentence("Promise 35: a RACE of that KIND (also of one that is one): its number; else -13");
        String[] ones = {"0", "0 1", "0 2", "0 1 3", "0 2 4", "0 5"};
        for (int r = 0; r < 6; r++) {
            for (int kind = 0; kind < 6; kind++) {
                EveryoneWins x = new EveryoneWins();
                for (int i = 0; i < r; i++) {
                    x.race(0, 0);
                }
                x.race(10 * kind + 9, 0);
                for (int taken = 0; taken < 6; taken++) {
                    edges.due("KIND " + kind, x, "taken(" + r + ", " + taken + ")", ones[kind].contains("" + taken) ? r : -13);
                }
                edges.due("KIND " + kind, x, "taken(" + r + ", 6)", -13);
            }
        }
    }

    private static void takenOfPlaces() {
        edges.sentence("Promise 35: places 0 .. 5 RACES, 6 .. 13 CHILDREN: SPEED");
        EveryoneWins x = Given.children(199, 2, 399, 400, 599, 699, 799, 9900);
        for (int c = 0; c < 8; c++) {
            edges.due(x, "taken(" + (6 + c) + ", 6)", c == 1 ? 0 : c == 7 ? 99 : c + 1);
            for (int kind = 0; kind < 6; kind++) {
                edges.due(x, "taken(" + (6 + c) + ", " + kind + ")", -13);
            }
        }
        edges.due(x, "taken(5, 0)", -11);
        x.put(7, 0, 12);
        edges.due(x, "taken(13, 6)", 12);
    }

    private static void takenRefuses() {
        edges.sentence("Promise 35: BAD, kind, whatever else is wrong");
        for (String kind : new String[] {"-1", "7", "MIN", "MAX"}) {
            for (String i : new String[] {"0", "6", "5", "13", "-1", "14"}) {
                edges.changesNothing(States.SOME, "taken(" + i + ", " + kind + ")", BAD);
            }
        }
        for (int kind = 0; kind <= 6; kind++) {
            edges.sentence("Promise 35: -12, no such place");
            for (String i : new String[] {"-1", "14", "MIN", "MAX"}) {
                edges.changesNothing(States.SOME, "taken(" + i + ", " + kind + ")", -12);
            }
            edges.sentence("Promise 35: -11, nothing lies there, whatever it is taken for");
            for (int i = 0; i < 14; i++) {
                edges.due(States.NOTHING.get(), "taken(" + i + ", " + kind + ")", -11);
            }
            for (int i : new int[] {2, 5, 9, 13}) {
                edges.changesNothing(States.SOME, "taken(" + i + ", " + kind + ")", -11);
            }
        }
        edges.sentence("Promise 35: -13, of another KIND, a CHILD for a RACE, a RACE for a CHILD");
        edges.changesNothing(States.SOME, "taken(0, 1)", -13);
        edges.changesNothing(States.SOME, "taken(1, 2)", -13);
        edges.changesNothing(States.SOME, "taken(0, 6)", -13);
        edges.changesNothing(States.SOME, "taken(6, 0)", -13);
    }
}
