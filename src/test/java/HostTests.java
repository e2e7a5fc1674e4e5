/** Promises 31 to 35: the host. */
public final class HostTests {
    private static final Check check = new Check();

    public static void main(String[] args) {
        promise31();
        promise32();
        promise33();
        promise34();
        promise35();
        check.end();
    }

    /** Number i of a SHEET, as a CHILD by it tells: -1 if it is none of 0 .. 9999. */
    private static int read(EveryoneWins x, int s, int sort, int i) {
        x.image();
        int came = x.childrenBy(s, sort, i, 1);
        int number = came != 1 ? -1 : 100 * x.told(x.count(1) - 1, 0) + x.told(x.count(1) - 1, 1);
        x.back();
        return number;
    }

    private static long[] row(EveryoneWins x, int s, int sort, int n) {
        long[] row = new long[n];
        for (int i = 0; i < n; i++) {
            row[i] = read(x, s, sort, i);
        }
        return row;
    }

    private static void promise31() {
        EveryoneWins x = new EveryoneWins();
        for (int sort = 0; sort <= 2; sort++) {
            check.due("40 of sort " + sort, x.sheet(sort, sort, 40), 1);
            check.due("the first place", x.cell(sort, 0, 6), 1);
            check.due("the last place", x.cell(sort, 39, 5), 1);
            check.due("a place outside", x.cell(sort, 40, 5), -12);
            check.due("none", x.sheet(sort, sort, 0), 1);
            check.due("no first place", x.cell(sort, 0, 5), -12);
            check.due("again", x.sheet(sort, sort, 40), 1);
            check.due("all 0", read(x, sort, sort, 39) + read(x, sort, sort, 0), 0);
        }
        check.due("missing", x.sheet(0, -1, 99), 1);
        check.due("is missing", x.cell(0, 0, 1), -11);
        check.due("missing again", x.sheet(0, -1, -99), 1);
        check.due("SHEET -1", x.sheet(-1, 0, 1), EveryoneWins.BAD);
        check.due("SHEET 4", x.sheet(4, -1, 1), EveryoneWins.BAD);
        check.due("sort -2", x.sheet(1, -2, 1), EveryoneWins.BAD);
        check.due("sort 3", x.sheet(1, 3, -1), EveryoneWins.BAD);
        check.due("n 41", x.sheet(1, 0, 41), EveryoneWins.BAD);
        check.due("n MAX", x.sheet(1, 0, Integer.MAX_VALUE), EveryoneWins.BAD);
        check.due("n -1", x.sheet(1, 0, -1), -14);
        check.due("n MIN", x.sheet(1, 0, Integer.MIN_VALUE), -14);
        check.due("it is as it was", read(x, 1, 1, 39), 0);
    }

    private static void promise32() {
        EveryoneWins x = new EveryoneWins();
        Given.sheet(x, 0, 0, 127, 256 + 5, 128, -1, 255, 256);
        Given.sheet(x, 1, 1, 9999, 65536 + 5, 32768, -1, 65535, 65536);
        Given.sheet(x, 2, 2, 9999, 65536 + 5, -1, 10000);
        check.dueAll("bytes", row(x, 0, 0, 6), 127, 5, -1, -1, -1, 0);
        check.dueAll("shorts", row(x, 1, 1, 6), 9999, 5, -1, -1, -1, 0);
        check.dueAll("ints", row(x, 2, 2, 4), 9999, -1, -1, -1);
        check.due("once more", x.cell(2, 3, 77), 1);
        check.dueAll("that one alone", row(x, 2, 2, 4), 9999, -1, -1, 77);
        check.due("SHEET -1", x.cell(-1, 0, 0), EveryoneWins.BAD);
        check.due("SHEET 4", x.cell(4, 99, 0), EveryoneWins.BAD);
        check.due("missing", x.cell(3, 99, 0), -11);
        check.due("place -1", x.cell(0, -1, 0), -12);
        check.due("place 6", x.cell(0, 6, 0), -12);
        check.due("place MAX", x.cell(0, Integer.MAX_VALUE, 0), -12);
        check.due("place MIN", x.cell(0, Integer.MIN_VALUE, 0), -12);
    }

    private static void promise33() {
        EveryoneWins x = new EveryoneWins();
        Given.sheet(x, 0, 2, 1, 2, 3, 4, 5);
        Given.sheet(x, 1, 2, 0, 0, 0);
        Given.sheet(x, 2, 1, 0, 0, 0);
        check.due("to another", x.copy(0, 1, 1, 1, 2), 2);
        check.dueAll("2 and 3 came", row(x, 1, 2, 3), 0, 2, 3);
        check.due("to its own, further on", x.copy(0, 0, 0, 1, 4), 4);
        check.dueAll("as they were", row(x, 0, 2, 5), 1, 1, 2, 3, 4);
        check.due("to its own, back", x.copy(0, 2, 0, 1, 3), 3);
        check.dueAll("as they were, too", row(x, 0, 2, 5), 1, 2, 3, 4, 4);
        check.due("a whole row", x.copy(1, 0, 0, 2, 3), 3);
        check.dueAll("came", row(x, 0, 2, 5), 1, 2, 0, 2, 3);
        check.due("none, at the ends", x.copy(0, 5, 1, 3, 0), 0);
        check.due("none of none", x.copy(0, 6, 1, 0, 0), -12);
        check.due("none into none", x.copy(0, 0, 1, 4, 0), -12);
        int[][] due = {{-1, 0, 0, 0, 0, -2}, {4, 0, 3, 0, 0, -2}, {3, 0, 4, 0, 0, -2}, {0, 0, -1, 0, 0, -2},
            {3, 0, 0, 9, 9, -11}, {0, 9, 3, 0, 9, -11}, {0, 9, 2, 9, 9, -13}, {2, 9, 0, 9, 9, -13},
            {0, -1, 1, 0, 1, -12}, {0, 0, 1, -1, 1, -12}, {0, 0, 1, 0, -1, -12}, {0, 4, 1, 0, 2, -12}, {0, 0, 1, 2, 2, -12},
            {0, 0, 1, 0, 4, -12}, {0, 1, 1, 0, Integer.MAX_VALUE, -12}, {0, Integer.MAX_VALUE, 1, 0, 1, -12},
            {0, 0, 1, Integer.MAX_VALUE, Integer.MAX_VALUE, -12}, {0, Integer.MIN_VALUE, 1, 0, Integer.MIN_VALUE, -12}};
        for (int[] d : due) {
            check.due("copy(" + d[0] + ", " + d[1] + ", " + d[2] + ", " + d[3] + ", " + d[4] + ")",
                x.copy(d[0], d[1], d[2], d[3], d[4]), d[5]);
        }
        check.dueAll("unchanged", row(x, 1, 2, 3), 0, 2, 3);
    }

    private static void promise34() {
        EveryoneWins x = new EveryoneWins();
        Given.sheet(x, 0, 2, 4700, 10000, 59, -1, 9999);
        check.due("none", x.childrenBy(0, 2, 0, 0), 0);
        check.due("those that are right", x.childrenBy(0, 2, 0, 5), 3);
        check.due("CHILDREN", x.count(1), 3);
        check.dueAll("they are", new long[] {x.told(0, 0), x.told(0, 1), x.told(1, 0), x.told(1, 1), x.told(2, 0), x.told(2, 1)},
            47, 0, 0, 59, 99, 99);
        check.due("a place outside", x.childrenBy(0, 2, 4, 2), -12);
        check.due("what stood ahead came", x.count(1), 4);
        check.due("from outside", x.childrenBy(0, 2, 5, 1), -12);
        check.due("from -1", x.childrenBy(0, 2, -1, 3), -12);
        check.due("from MAX", x.childrenBy(0, 2, Integer.MAX_VALUE, 8), -12);
        check.due("from MIN", x.childrenBy(0, 2, Integer.MIN_VALUE, 8), -12);
        check.due("none came", x.count(1), 4);
        Given.sheet(x, 1, 0, 1, 2, 3, 4, 5, 6, 7, 8);
        check.due("as many as have room", x.childrenBy(1, 0, 0, 8), 4);
        check.dueAll("the first ones", new long[] {x.told(4, 1), x.told(7, 1), x.count(1)}, 1, 4, 8);
        check.due("all are left out", x.childrenBy(1, 0, 0, 8), 0);
        int[][] due = {{4, 2, 0, 1, -2}, {-1, 2, 0, 1, -2}, {0, 3, 0, 1, -2}, {0, -1, 0, 1, -2}, {0, 2, 0, 9, -2}, {0, 2, 0, -1, -2},
            {3, 2, 0, 1, -11}, {3, 2, -1, 9, -2}, {0, 1, 0, 1, -13}, {0, 0, -1, 1, -13}, {1, 2, 0, 0, -13}};
        for (int[] d : due) {
            check.due("childrenBy(" + d[0] + ", " + d[1] + ", " + d[2] + ", " + d[3] + ")",
                x.childrenBy(d[0], d[1], d[2], d[3]), d[4]);
        }
    }

    private static void promise35() {
        EveryoneWins x = Given.children(4120, 5010, 330);
        boolean[][] isOne = {
            {true, false, false, false, false, false}, {true, true, false, false, false, false},
            {true, false, true, false, false, false}, {true, true, false, true, false, false},
            {true, false, true, false, true, false}, {true, false, false, false, false, true}};
        for (int r = 0; r < 6; r++) {
            check.due("nothing at " + r, x.taken(r, 0), -11);
            x.race(10 * r + 3, 0);
            for (int kind = 0; kind < 6; kind++) {
                check.due("KIND " + r + " taken for " + kind, x.taken(r, kind), isOne[r][kind] ? r : -13);
            }
            check.due("a RACE taken for a CHILD", x.taken(r, 6), -13);
        }
        check.dueAll("SPEEDS", new long[] {x.taken(6, 6), x.taken(7, 6), x.taken(8, 6)}, 41, 50, 3);
        check.due("no fourth CHILD", x.taken(9, 6), -11);
        check.due("no fourth CHILD for a RACE", x.taken(13, 0), -11);
        for (int kind = 0; kind < 6; kind++) {
            check.due("a CHILD taken for " + kind, x.taken(6, kind), -13);
        }
        check.due("kind -1", x.taken(99, -1), EveryoneWins.BAD);
        check.due("kind 7", x.taken(0, 7), EveryoneWins.BAD);
        check.due("place -1", x.taken(-1, 0), -12);
        check.due("place 14", x.taken(14, 6), -12);
        check.due("place MAX", x.taken(Integer.MAX_VALUE, 6), -12);
    }
}
