import java.util.ArrayList;
import java.util.List;
import java.util.function.Supplier;

/** All that calls can tell of an object. Looking at some of it changes it, so that each look has an object of its own. */
final class Picture {
    private static final List<List<String>> LOOKS = looks();

    final List<String> rows = new ArrayList<>();

    Picture(Supplier<EveryoneWins> made) {
        for (List<String> look : LOOKS) {
            EveryoneWins x = made.get();
            for (String call : look) {
                rows.add(call + " = " + Calls.answer(x, call.replace("LAST", "" + (x.count(1) - 1))));
            }
        }
    }

    /** The first row that is otherwise in another one, or "". */
    String otherwise(Picture other) {
        for (int i = 0; i < rows.size(); i++) {
            if (!rows.get(i).equals(other.rows.get(i))) {
                return rows.get(i) + ", then " + other.rows.get(i);
            }
        }
        return "";
    }

    private static List<List<String>> looks() {
        List<List<String>> looks = new ArrayList<>();
        looks.add(known());
        looks.add(days());
        looks.add(toldDays());
        looks.add(laws());
        looks.add(tape());
        for (int s = 0; s < 4; s++) {
            for (int sort = 0; sort < 3; sort++) {
                looks.add(sheet(s, sort));
            }
        }
        looks.add(image());
        return looks;
    }

    /** As text: name(i, k) for all i below most, all k below many. */
    private static void all(List<String> look, String name, int most, int many) {
        for (int i = 0; i < most; i++) {
            for (int k = 0; k < many; k++) {
                look.add(name + "(" + i + ", " + k + ")");
            }
        }
    }

    private static void all(List<String> look, String name, int most) {
        for (int i = 0; i < most; i++) {
            look.add(name + "(" + i + ")");
        }
    }

    private static List<String> known() {
        List<String> look = new ArrayList<>();
        all(look, "count", 5);
        all(look, "told", 8, 3);
        all(look, "card", 6, 4);
        all(look, "comes", 6, 8);
        all(look, "does", 8, 6);
        all(look, "taken", 14, 7);
        return look;
    }

    private static List<String> days() {
        List<String> look = new ArrayList<>();
        all(look, "day", 18);
        for (String name : new String[] {"let", "spare", "drop", "order", "tie"}) {
            all(look, name, 3);
        }
        all(look, "needs", 8, 3);
        look.addAll(List.of("drawn(5, 0)", "drawn(5, 1)", "odds(5, 20, 1, 0)", "odds(5, 20, 1, 1)"));
        return look;
    }

    private static List<String> toldDays() {
        List<String> look = new ArrayList<>();
        all(look, "judge", 4);
        all(look, "laws", 4);
        for (int s = 0; s < 4; s++) {
            for (int r = 0; r < 6; r++) {
                look.add("kinds(" + s + ", " + r + ", " + (r + s) % 3 + ")");
            }
            for (int c = 0; c < 8; c++) {
                look.add("quick(" + s + ", " + c + ", " + 10 * ((c + s) % 3) + ")");
            }
        }
        all(look, "film", 4);
        return look;
    }

    private static List<String> laws() {
        List<String> look = new ArrayList<>();
        for (int t = 0; t < 6; t++) {
            look.add("force(" + t + ")");
            for (int part = 0; part < 3; part++) {
                for (int r = -1; r < 3; r++) {
                    look.add("asks(" + part + ", 0, " + r + ", 0)");
                    look.add("asks(" + part + ", 2, " + r + ", 3)");
                }
            }
        }
        return look;
    }

    private static List<String> tape() {
        List<String> look = new ArrayList<>();
        look.add("text()");
        for (int t = 1; t < 6; t++) {
            look.add("force(" + t + ")");
            for (int c = 0; c < 3; c++) {
                look.add("asks(0, " + c + ", 0, 1)");
            }
        }
        look.add("count(4)");
        look.add("text()");
        return look;
    }

    /** CHILDREN by what stands in it: there is room for them once THE IMAGE is back. */
    private static List<String> sheet(int s, int sort) {
        List<String> look = new ArrayList<>();
        look.add("back()");
        for (int i = 0; i < 40; i++) {
            look.add("image()");
            look.add("childrenBy(" + s + ", " + sort + ", " + i + ", 1)");
            look.add("told(LAST, 0)");
            look.add("told(LAST, 1)");
            look.add("back()");
        }
        return look;
    }

    private static List<String> image() {
        List<String> look = new ArrayList<>();
        look.add("back()");
        all(look, "count", 5);
        all(look, "told", 8, 3);
        all(look, "card", 6, 4);
        look.addAll(List.of("child(1)", "race(11, 1)"));
        return look;
    }
}
