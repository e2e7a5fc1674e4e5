import java.util.function.Supplier;

/** States in which calls are refused, or ask: with nothing there yet, with some of all, with all full. */
final class States {
    static final Supplier<EveryoneWins> NOTHING = EveryoneWins::new;
    static final Supplier<EveryoneWins> SOME = States::some;
    static final Supplier<EveryoneWins> FULL = States::full;
    static final Supplier<EveryoneWins> TOLD = States::told;

    private States() {
    }

    /** 3 CHILDREN, 2 RACES, 3 TEXTS, a right text on THE TAPE, SHEETS of all sorts, AN IMAGE that is otherwise. */
    private static EveryoneWins some() {
        EveryoneWins x = Given.children(4020, 5010);
        x.race(0, 3);
        x.put(1, 2, 4);
        x.image();
        x.put(1, 2, 5);
        x.put(0, 0, 41);
        x.child(330);
        x.race(36, 7);
        x.enter(0, 1, 2);
        x.enter(0, 0, 5);
        Given.law(x, "yards luck; worth 9 - won * 2; none 0 - speed;");
        Given.law(x, "yards 7 * won; worth 8 - race; none 0 - luck;");
        Given.tape(x, "yards speed + won; worth 1; none 2;");
        Given.sheet(x, 0, 0, 1, 2, 3, 100, 127);
        Given.sheet(x, 1, 1, 9999, 0, 1234);
        Given.sheet(x, 2, 2, 4700, 8, 15, 16, 23, 42, 108);
        return x;
    }

    /** 8 CHILDREN, 6 RACES, 6 TEXTS, 160 bytes on THE TAPE, SHEETS of 40; THE IMAGE has 7 CHILDREN and 5 RACES. */
    private static EveryoneWins full() {
        EveryoneWins x = Given.children(4020, 5010, 330, 9999, 4020, 0, 7777);
        for (int kind = 0; kind < 5; kind++) {
            x.race(10 * kind + 5, 127 >> kind);
            x.enter(kind, 1, kind % 4);
        }
        for (int t = 1; t < 6; t++) {
            Given.law(x, "yards luck * " + t + " - won; worth " + t + " - won; none 0 - speed;");
        }
        x.image();
        x.child(1234);
        x.put(7, 2, 9);
        x.race(59, 255);
        x.force(4);
        Given.tape(x, "yards 1;worth 1;none 1;" + " ".repeat(137));
        for (int s = 0; s < 4; s++) {
            int[] numbers = new int[40];
            for (int i = 0; i < 40; i++) {
                numbers[i] = 3 * i + s;
            }
            Given.sheet(x, s, s % 3, numbers);
        }
        return x;
    }

    /** 3 CHILDREN, 3 RACES of which SHEETS 0 and 1 tell truly, 2 falsely; SHEET 3 is missing; no IMAGE. */
    private static EveryoneWins told() {
        EveryoneWins x = Given.children(4020, 5010, 330);
        x.race(5, 7);
        x.race(14, 3);
        x.race(22, 6);
        x.enter(0, 1, 2);
        x.film(0);
        x.film(1);
        x.film(2);
        x.cell(2, 1, 4);
        Given.tape(x, "yards won; worth 3; none #");
        return x;
    }
}
