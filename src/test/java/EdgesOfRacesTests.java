import java.util.function.Supplier;

/** Boundary cases of promises 10 to 15, sentence by sentence: races. */
public final class EdgesOfRacesTests {
    private static final int BAD = EveryoneWins.BAD, FULL = EveryoneWins.FULL;
    private static final int FLAT = 0, SACK = 10, EGG = 20, BACKWARD = 30, SLOW = 40, CHEER = 50;
    private static final Edges edges = new Edges();

    public static void main(String[] args) {
        raceTakes();
        raceRefuses();
        raceComesAsNew();
        enterTakes();
        enterRefuses();
        cardTakesAndRefuses();
        comesTakes();
        comesOfLikes();
        comesAsInAFirstRace();
        comesRefuses();
        doesOfEachKind();
        doesAtTheEnds();
        doesCuts();
        yardsAreBounded();
        doesAsInAFirstRace();
        doesRefuses();
        dayWithoutAnything();
        dayTellsOfEach();
        dayRefuses();
        joyOfWorthByWon();
        joyOfNone();
        ribbonsForHowMany();
        ribbonsOfOneRaceCountInTheNext();
        edges.end();
    }

    private static void raceTakes() {
        edges.sentence("Promise 10: KINDS 0 .. 5, MORE 0 .. 9; its number; RIBBONS 1 as one comes");
        for (int kindMore = 0; kindMore < 60; kindMore++) {
            EveryoneWins x = Given.children(0);
            edges.due(x, "race(" + kindMore + ", 1)", 0);
            edges.row(x, "card(0, ", 0, kindMore / 10, kindMore % 10, 1, 1);
        }
        edges.sentence("Promise 10: 6 RACES");
        EveryoneWins x = Given.children(0);
        for (int r = 0; r < 6; r++) {
            edges.due(x, "race(0, 1)", r);
            edges.due(x, "count(0)", r + 1);
        }
        edges.sentence("Promise 10: from nobody to all for RUNNERS");
        for (int many = 0; many <= 8; many++) {
            EveryoneWins y = Given.children(new int[many]);
            edges.due(y, "race(0, 0)", 0);
            edges.due(y, "race(0, " + ((1 << many) - 1) + ")", 1);
            edges.due(y, "race(0, " + (1 << many) + ")", BAD);
            edges.due(y, "count(0)", 2);
        }
    }

    private static void raceRefuses() {
        for (String kindMore : new String[] {"-1", "60", "-10", "100", "MIN", "MAX"}) {
            edges.sentence("Promise 10: BAD kindMore");
            edges.changesNothing(States.SOME, "race(" + kindMore + ", 0)", BAD);
            edges.sentence("Promise 10: BAD is told ahead of FULL");
            edges.changesNothing(States.FULL, "race(" + kindMore + ", 0)", BAD);
        }
        for (String who : new String[] {"-1", "8", "9", "256", "MIN", "MAX"}) {
            edges.sentence("Promise 10: BAD RUNNERS");
            edges.changesNothing(States.SOME, "race(0, " + who + ")", BAD);
        }
        for (String who : new String[] {"-1", "256", "MIN", "MAX"}) {
            edges.sentence("Promise 10: BAD is told ahead of FULL");
            edges.changesNothing(States.FULL, "race(0, " + who + ")", BAD);
        }
        edges.changesNothing(States.NOTHING, "race(0, 1)", BAD);
        edges.sentence("Promise 10: a seventh RACE");
        edges.changesNothing(States.FULL, "race(0, 0)", FULL);
        edges.changesNothing(States.FULL, "race(59, 255)", FULL);
    }

    private static void raceComesAsNew() {
        edges.sentence("Terms: RIBBONS are 1 as one comes, also where there was one before");
        EveryoneWins x = Given.children(0);
        x.image();
        x.race(59, 1);
        x.enter(0, 1, 3);
        edges.due(x, "back()", 0);
        edges.due(x, "race(10, 0)", 0);
        edges.row(x, "card(0, ", 0, 1, 0, 0, 1);
    }

    private static void enterTakes() {
        edges.sentence("Promise 11: RUNNERS from none to all; what they were");
        EveryoneWins x = States.FULL.get();
        for (int r = 0; r < 6; r++) {
            int were = x.card(r, 2);
            int ribbons = x.card(r, 3);
            edges.due(x, "enter(" + r + ", 0, 255)", were);
            edges.due(x, "enter(" + r + ", 0, 0)", 255);
            edges.due(x, "card(" + r + ", 2)", 0);
            edges.due(x, "enter(" + r + ", 0, 128)", 0);
            edges.due(x, "enter(" + r + ", 0, " + were + ")", 128);
            edges.sentence("Promise 11: RIBBONS of 0 .. 3; what they were");
            edges.due(x, "enter(" + r + ", 1, 3)", ribbons);
            edges.due(x, "enter(" + r + ", 1, 0)", 3);
            edges.due(x, "card(" + r + ", 3)", 0);
            edges.due(x, "enter(" + r + ", 1, " + ribbons + ")", 0);
        }
        edges.sentence("Promise 11: none but that is changed");
        edges.samePicture(States.FULL, "enter(5, 0, " + x.card(5, 2) + ")");
        edges.samePicture(States.FULL, "enter(5, 1, " + x.card(5, 3) + ")");
    }

    private static void enterRefuses() {
        edges.sentence("Promise 11: -6, no such RACE, is told ahead of -7");
        edges.changesNothing(States.NOTHING, "enter(0, 0, 0)", -6);
        for (String r : new String[] {"-1", "2", "6", "MIN", "MAX"}) {
            edges.changesNothing(States.SOME, "enter(" + r + ", 0, 0)", -6);
            edges.changesNothing(States.SOME, "enter(" + r + ", 2, 256)", -6);
        }
        edges.changesNothing(States.FULL, "enter(6, 1, 1)", -6);
        edges.sentence("Promise 11: -7, what");
        for (String what : new String[] {"-1", "2", "3", "MIN", "MAX"}) {
            edges.changesNothing(States.SOME, "enter(0, " + what + ", 1)", -7);
        }
        edges.sentence("Promise 11: -7, v");
        for (String v : new String[] {"-1", "8", "255", "MIN", "MAX"}) {
            edges.changesNothing(States.SOME, "enter(1, 0, " + v + ")", -7);
        }
        edges.changesNothing(States.FULL, "enter(1, 0, 256)", -7);
        edges.changesNothing(States.FULL, "enter(1, 0, -1)", -7);
        for (String v : new String[] {"-1", "4", "MIN", "MAX"}) {
            edges.changesNothing(States.SOME, "enter(1, 1, " + v + ")", -7);
            edges.changesNothing(States.FULL, "enter(1, 1, " + v + ")", -7);
        }
        edges.sentence("Promise 11: RUNNERS of no CHILDREN");
        Supplier<EveryoneWins> empty = () -> {
            EveryoneWins x = new EveryoneWins();
            x.race(0, 0);
            return x;
        };
        edges.changesNothing(empty, "enter(0, 0, 1)", -7);
        edges.due(empty.get(), "enter(0, 0, 0)", 0);
        edges.due(empty.get(), "enter(0, 1, 3)", 1);
    }

    private static void cardTakesAndRefuses() {
        edges.sentence("Promise 12: of the last RACE, all there is");
        edges.row(States.FULL.get(), "card(5, ", 0, 5, 9, 255, 1);
        edges.row(States.FULL.get(), "card(3, ", 0, 3, 5, 15, 3);
        edges.sentence("Promise 12: -6, no such RACE, is told ahead of -7");
        edges.changesNothing(States.NOTHING, "card(0, 0)", -6);
        for (String r : new String[] {"-1", "2", "6", "MIN", "MAX"}) {
            edges.changesNothing(States.SOME, "card(" + r + ", 0)", -6);
            edges.changesNothing(States.SOME, "card(" + r + ", 4)", -6);
        }
        edges.changesNothing(States.FULL, "card(6, 0)", -6);
        edges.sentence("Promise 12: -7, what");
        for (String what : new String[] {"-1", "4", "MIN", "MAX"}) {
            edges.changesNothing(States.SOME, "card(1, " + what + ")", -7);
        }
    }

    private static void comesTakes() {
        edges.sentence("Promise 13: place 0 .. 7; -1: nobody");
        EveryoneWins x = Given.children(1000, 8000, 2000, 7000, 3000, 6000, 4000, 5000);
        x.race(FLAT, 255);
        edges.row(x, "comes(0, ", 0, 1, 3, 5, 7, 6, 4, 2, 0);
        for (int r = 1; r < 5; r++) {
            x.race(FLAT, 0);
        }
        edges.row(x, "comes(4, ", 0, -1, -1, -1, -1, -1, -1, -1, -1);
        x.race(FLAT, 128);
        edges.row(x, "comes(5, ", 0, 7, -1, -1, -1, -1, -1, -1, -1);
        edges.sentence("Promise 13: places count RUNNERS, whether there are RIBBONS or not");
        x.enter(0, 1, 0);
        edges.row(x, "comes(0, ", 0, 1, 3, 5, 7, 6, 4, 2, 0);
    }

    private static void comesOfLikes() {
        edges.sentence("Terms: of like ones the least number first");
        EveryoneWins x = Given.children(5000, 5000, 5000, 5000, 5000, 5000, 5000, 5000);
        x.race(FLAT, 255);
        edges.row(x, "comes(0, ", 0, 0, 1, 2, 3, 4, 5, 6, 7);
        x.put(4, 0, 51);
        x.put(2, 0, 49);
        edges.row(x, "comes(0, ", 0, 4, 0, 1, 3, 5, 6, 7, 2);
        edges.sentence("Terms: SCORES below 0, the most first");
        EveryoneWins y = Given.children(9900, 9800, 9900, 0);
        y.race(SLOW, 15);
        edges.row(y, "comes(0, ", 0, 3, 1, 0, 2, -1, -1, -1, -1);
    }

    private static void comesAsInAFirstRace() {
        edges.sentence("Promise 13: were it the first RACE of a day");
        EveryoneWins x = Given.children(5000, 4000);
        for (int r = 0; r < 6; r++) {
            x.race(FLAT, 3);
        }
        Given.law(x, "yards 50 - 50 * won; worth 0; none 0;");
        // 0, then 1, then 0 wherever both have WON one or more.
        edges.row(x, "day(", 10, 5, 1);
        for (int r = 0; r < 6; r++) {
            edges.row(x, "comes(" + r + ", ", 0, 0, 1, -1);
        }
    }

    private static void comesRefuses() {
        edges.sentence("Promise 13: -6, no such RACE, is told ahead of -7");
        edges.changesNothing(States.NOTHING, "comes(0, 0)", -6);
        for (String r : new String[] {"-1", "2", "6", "MIN", "MAX"}) {
            edges.changesNothing(States.SOME, "comes(" + r + ", 0)", -6);
            edges.changesNothing(States.SOME, "comes(" + r + ", 8)", -6);
        }
        edges.changesNothing(States.FULL, "comes(6, 0)", -6);
        edges.sentence("Promise 13: -7, k");
        for (String k : new String[] {"-1", "8", "MIN", "MAX"}) {
            edges.changesNothing(States.SOME, "comes(1, " + k + ")", -7);
            edges.changesNothing(States.FULL, "comes(5, " + k + ")", -7);
        }
    }

    /** SCORE of a CHILD of SPEED, LUCK and YARDS anyhow, by TEXT 0. */
    private static void score(int kindMore, int speedLuck, int yards, int want) {
        EveryoneWins x = Given.children(speedLuck);
        x.put(0, 2, yards);
        x.race(kindMore, 1);
        String of = "KIND and MORE " + kindMore + ", SPEED and LUCK " + speedLuck + ", YARDS " + yards;
        edges.due(of, x, "does(0, 0)", want);
        x.enter(0, 0, 0);
        edges.due(of + ", no RUNNER", x, "does(0, 0)", want);
    }

    private static void doesOfEachKind() {
        edges.sentence("Terms: FLAT: SPEED; YARDS COUNT as many");
        score(FLAT, 4720, 0, 47);
        score(FLAT + 9, 4799, 0, 47);
        score(FLAT + 9, 4799, 8, 55);
        edges.sentence("Terms: SACK: half of that, and LUCK; YARDS COUNT as many");
        score(SACK, 4620, 0, 43);
        score(SACK + 9, 4620, 8, 51);
        edges.sentence("Terms: EGG: LUCK, and MORE; YARDS COUNT as many");
        score(EGG, 4620, 0, 20);
        score(EGG + 9, 4620, 8, 37);
        edges.sentence("Terms: BACKWARD: 99 less; YARDS COUNT as many times MORE by 2");
        score(BACKWARD, 4620, 0, 56);
        score(BACKWARD, 4620, 8, 56);
        score(BACKWARD + 1, 4620, 8, 60);
        score(BACKWARD + 2, 4620, 8, 64);
        score(BACKWARD + 9, 4620, 8, 92);
        edges.sentence("Terms: SLOW: SPEED less than in an EGG; YARDS COUNT 0 less as many");
        score(SLOW, 4620, 0, -26);
        score(SLOW + 9, 4620, 0, -17);
        score(SLOW + 9, 4620, 8, -25);
        edges.sentence("Terms: CHEER: 7 times SPEED, 3 times LUCK, and MORE, modulo 31; YARDS COUNT as many");
        score(CHEER, 4620, 0, (7 * 46 + 60) % 31);
        score(CHEER + 9, 4620, 8, (7 * 46 + 60 + 9) % 31 + 8);
    }

    private static void doesAtTheEnds() {
        edges.sentence("Terms: a SCORE has no bound");
        score(FLAT, 0, 0, 0);
        score(FLAT, 9999, 99, 198);
        score(SACK, 0, 0, 0);
        score(SACK, 9999, 99, 49 + 99 + 99);
        score(EGG + 9, 9999, 99, 99 + 9 + 99);
        score(BACKWARD + 9, 0, 99, 99 + 445);
        score(BACKWARD, 9999, 0, 99 - 148);
        score(BACKWARD, 9999, 99, 99 - 148);
        score(SLOW, 9900, 99, -198);
        score(SLOW + 9, 99, 0, 108);
        edges.sentence("Terms: CHEER, modulo 31: 0 .. 30");
        score(CHEER, 0, 0, 0);
        score(CHEER, 10, 0, 30);
        score(CHEER + 1, 10, 0, 0);
        score(CHEER + 2, 10, 0, 1);
        score(CHEER + 3, 400, 0, 0);
        score(CHEER + 9, 9999, 99, 7 + 99);
    }

    private static void doesCuts() {
        edges.sentence("Terms: half (cut)");
        score(SACK, 100, 0, 0);
        score(SACK, 200, 0, 1);
        score(SACK, 300, 0, 1);
        score(SACK, 9900, 0, 49);
        score(BACKWARD, 100, 0, 99);
        score(BACKWARD, 300, 0, 98);
        edges.sentence("Terms: times MORE by 2 (cut)");
        score(BACKWARD + 1, 0, 1, 99);
        score(BACKWARD + 1, 0, 2, 100);
        score(BACKWARD + 1, 0, 3, 100);
        score(BACKWARD + 3, 0, 1, 100);
        score(BACKWARD + 3, 0, 3, 103);
        score(BACKWARD + 9, 0, 1, 103);
        score(BACKWARD + 9, 0, 99, 544);
    }

    /** YARDS COUNT as many in a FLAT, where SPEED is 0: what is told together. */
    private static void together(String yards, int anyhow, int want) {
        EveryoneWins x = Given.children(0);
        x.put(0, 2, anyhow);
        x.race(FLAT, 1);
        x.race(SLOW, 1);
        x.race(BACKWARD + 2, 1);
        Given.law(x, "yards " + yards + ";worth 0;none 0;");
        edges.due(yards + " and " + anyhow, x, "does(0, 0)", want);
        edges.due(yards + " and " + anyhow, x, "does(0, 1)", -want);
        edges.due(yards + " and " + anyhow, x, "does(0, 2)", 99 + want);
    }

    private static void yardsAreBounded() {
        edges.sentence("Terms: YARDS together, 0 .. 99, else the bound");
        together("0", 0, 0);
        together("0", 99, 99);
        together("99", 0, 99);
        together("49", 50, 99);
        together("49", 49, 98);
        together("50", 50, 99);
        together("1", 99, 99);
        together("99", 1, 99);
        together("99", 99, 99);
        edges.sentence("Terms: what the text tells has its own bound ahead");
        together("-1", 0, 0);
        together("-1", 1, 1);
        together("-50", 50, 50);
        together("-9999", 99, 99);
        together("100", 0, 99);
        together("9999", 99, 99);
    }

    private static void doesAsInAFirstRace() {
        edges.sentence("Promise 14: so: were it the first RACE of a day");
        EveryoneWins x = Given.children(5000, 4000);
        x.race(FLAT, 1);
        x.race(FLAT, 3);
        Given.law(x, "yards 10 + won * 20 + runners; worth 0; none 0;");
        edges.due(x, "day(10)", 2);
        edges.due(x, "does(0, 1)", 62);
        edges.sentence("Promise 14: RUNNER or not: RUNNERS are those of the RACE");
        edges.due(x, "does(0, 0)", 61);
        edges.due(x, "does(1, 0)", 51);
    }

    private static void doesRefuses() {
        edges.sentence("Promise 14: -1005, no such CHILD, is told ahead of -1006");
        edges.changesNothing(States.NOTHING, "does(0, 0)", -1005);
        for (String c : new String[] {"-1", "3", "8", "MIN", "MAX"}) {
            edges.changesNothing(States.SOME, "does(" + c + ", 0)", -1005);
            edges.changesNothing(States.SOME, "does(" + c + ", 2)", -1005);
        }
        edges.changesNothing(States.FULL, "does(8, 0)", -1005);
        edges.sentence("Promise 14: -1006, no such RACE");
        for (String r : new String[] {"-1", "2", "6", "MIN", "MAX"}) {
            edges.changesNothing(States.SOME, "does(2, " + r + ")", -1006);
        }
        edges.changesNothing(States.FULL, "does(7, 6)", -1006);
    }

    private static void dayWithoutAnything() {
        edges.sentence("Promise 15: without CHILDREN, with RACES");
        EveryoneWins x = new EveryoneWins();
        for (int kind = 0; kind < 6; kind++) {
            x.race(10 * kind, 0);
            x.enter(kind, 1, 3);
        }
        edges.row(x, "day(", 0, 0, 0, 0, 0);
        edges.sentence("Promise 15: with CHILDREN, without RACES");
        EveryoneWins y = Given.children(1, 2, 3, 4, 5, 6, 7, 8);
        edges.row(y, "day(", 0, 255, 8, -40, 0);
        edges.row(y, "day(", 10, 0, 0, 0, 0, 0, 0, 0, 0);
        edges.sentence("Promise 15: with RACES in which nobody runs");
        for (int kind = 0; kind < 6; kind++) {
            y.race(10 * kind, 0);
        }
        edges.row(y, "day(", 0, 255, 8, -40, 0);
    }

    private static void dayTellsOfEach() {
        edges.sentence("Promise 15: WON of 6, ribbons of 24, nobody with none");
        EveryoneWins x = Given.children(800, 700, 600, 500, 400, 300, 200, 100);
        for (int r = 0; r < 6; r++) {
            x.race(CHEER, 255);
        }
        edges.due(x, "day(3)", 24);
        Given.law(x, "yards 0; worth 99; none 0;");
        edges.due(x, "day(2)", 24 * 99);
        Given.law(x, "yards 0; worth 0 - 99; none 0 - 99;");
        edges.due(x, "day(2)", -28 * 99);
        edges.due(x, "day(1)", 4);
        edges.row(x, "day(", 10, wonInCheers());
        edges.sentence("Promise 15: bits of all, of none, of the last");
        EveryoneWins y = Given.children(800, 700, 600, 500, 400, 300, 200, 100);
        y.race(FLAT, 255);
        edges.due(y, "day(0)", 254);
        y.enter(0, 0, 128);
        edges.due(y, "day(0)", 127);
        edges.due(y, "day(17)", 1);
        y.enter(0, 1, 0);
        edges.due(y, "day(0)", 255);
    }

    /** SPEEDS 8 .. 1: 7 times each, modulo 31: 25, 18, 11, 4, 28, 21, 14, 7. */
    private static long[] wonInCheers() {
        return new long[] {6, 6, 0, 0, 6, 6, 0, 0};
    }

    private static void dayRefuses() {
        edges.sentence("Promise 15: -1000, what, no such CHILD");
        for (String what : new String[] {"-1", "4", "5", "9", "13", "17", "18", "20", "MIN", "MAX"}) {
            edges.changesNothing(States.SOME, "day(" + what + ")", -1000);
        }
        for (String what : new String[] {"-1", "4", "9", "18", "MIN", "MAX"}) {
            edges.changesNothing(States.FULL, "day(" + what + ")", -1000);
        }
        edges.changesNothing(States.NOTHING, "day(10)", -1000);
    }

    private static void joyOfWorthByWon() {
        edges.sentence("Terms: JOY is what is told of worth more; then WON is 1 more");
        EveryoneWins x = Given.children(5000);
        long joy = 0;
        for (int r = 0; r < 6; r++) {
            x.race(FLAT, 1);
            joy += 10 - 3 * r;
            edges.due(x, "day(2)", joy);
            edges.due(x, "day(10)", r + 1);
        }
        edges.sentence("Terms: worth goes by the RACE in which it is won");
        Given.law(x, "yards 0; worth race * 10 + runners + won; none 99;");
        edges.due(x, "day(2)", 150 + 6 + 15);
        edges.sentence("Terms: worth is bounded one by one");
        Given.law(x, "yards 0; worth 100 - 2 * (won = 5); none 99;");
        edges.due(x, "day(2)", 5 * 99 + 98);
        Given.law(x, "yards 0; worth 0 - 100 + 2 * (won = 5); none 99;");
        edges.due(x, "day(2)", -5 * 99 - 98);
    }

    private static void joyOfNone() {
        edges.sentence("Terms: none counts for each that has WON none: WON, more, runners, race 0");
        EveryoneWins x = Given.children(5001, 4002, 3004);
        x.race(FLAT + 9, 7);
        Given.law(x, "yards 0; worth 0; none 10 * luck + won + more + runners + race;");
        edges.due(x, "day(2)", 60);
        x.enter(0, 1, 2);
        edges.due(x, "day(2)", 40);
        x.enter(0, 1, 3);
        edges.due(x, "day(2)", 0);
        edges.sentence("Terms: none is bounded one by one");
        x.enter(0, 1, 0);
        Given.law(x, "yards 0; worth 0; none 100 - 2 * (luck = 4);");
        edges.due(x, "day(2)", 99 + 99 + 98);
        Given.law(x, "yards 0; worth 0; none 0 - 100 + 2 * (luck = 4);");
        edges.due(x, "day(2)", -99 - 99 - 98);
    }

    /** Ribbons of a RACE of a KIND, with RIBBONS 0 .. 3, in which so many run. */
    private static void ribbons(int kindMore, int runners, long... wants) {
        EveryoneWins x = Given.children(1, 2, 3, 4, 5, 6, 7, 8);
        x.race(kindMore, (1 << runners) - 1);
        for (int n = 0; n <= 3; n++) {
            x.enter(0, 1, n);
            edges.due("KIND and MORE " + kindMore + ", " + runners + " RUNNERS, RIBBONS " + n, x, "day(3)", wants[n]);
        }
    }

    private static void ribbonsForHowMany() {
        edges.sentence("Terms: FOR HOW MANY: RIBBONS, no more than there are RUNNERS");
        for (int kind : new int[] {FLAT, SACK, BACKWARD}) {
            for (int runners = 0; runners <= 8; runners++) {
                ribbons(kind, runners, 0, Math.min(1, runners), Math.min(2, runners), Math.min(3, runners));
            }
        }
        edges.sentence("Terms: EGG, SLOW: FOR 1, if there are fewer than 3 RUNNERS, else as a FLAT");
        for (int kind : new int[] {EGG, EGG + 9, SLOW, SLOW + 9}) {
            ribbons(kind, 0, 0, 0, 0, 0);
            ribbons(kind, 1, 1, 1, 1, 1);
            ribbons(kind, 2, 1, 1, 1, 1);
            ribbons(kind, 3, 0, 1, 2, 3);
            ribbons(kind, 8, 0, 1, 2, 3);
        }
        edges.sentence("Terms: CHEER: FOR half (cut) of all RUNNERS");
        for (int runners = 0; runners <= 8; runners++) {
            long half = runners / 2;
            ribbons(CHEER, runners, half, half, half, half);
        }
    }

    private static void ribbonsOfOneRaceCountInTheNext() {
        edges.sentence("Terms: WON by then: what was won in the same RACE does not count for who COMES IN");
        EveryoneWins x = Given.children(5000, 4900, 4800);
        x.race(FLAT, 7);
        x.race(FLAT, 7);
        x.enter(0, 1, 3);
        Given.law(x, "yards 10 * won * (speed < 49); worth 10 * won + speed - 48; none 0;");
        edges.due(x, "day(2)", 2 + 1 + 0 + 10);
        edges.row(x, "day(", 10, 1, 1, 2);
    }
}
