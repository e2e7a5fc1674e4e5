import java.util.ArrayList;
import java.util.Arrays;
import java.util.Collections;
import java.util.Comparator;
import java.util.List;
import java.util.Map;
import java.util.TreeMap;

/** The document once more, as plainly as the Java library allows; ReferenceTests compares the class with it. */
final class Plain {
    record Child(int speed, int luck, int yards) {
        int get(int what) {
            return what == 0 ? speed : what == 1 ? luck : yards;
        }

        Child with(int what, int v) {
            return new Child(what == 0 ? v : speed, what == 1 ? v : luck, what == 2 ? v : yards);
        }
    }

    record Race(int number, int kind, int more, int runners, int ribbons) {
        int get(int what) {
            return new int[] {kind, more, runners, ribbons}[what];
        }

        Race with(int what, int v) {
            return new Race(number, what == 0 ? v : kind, what == 1 ? v : more, what == 2 ? v : runners, what == 3 ? v : ribbons);
        }
    }

    record State(List<Child> children, List<Race> races, PlainText law) {
        State withChild(int c, Child child) {
            List<Child> others = new ArrayList<>(children);
            others.set(c, child);
            return new State(others, races, law);
        }

        State withRace(int r, Race race) {
            List<Race> others = new ArrayList<>(races);
            others.set(r, race);
            return new State(children, others, law);
        }

        State withRaces(List<Race> others) {
            return new State(children, others, law);
        }
    }

    record Day(int joy, int[] won, Map<Integer, Integer> winners, int ribbons) {
        int without() {
            int bits = 0;
            for (int c = 0; c < won.length; c++) {
                bits += won[c] == 0 ? 1 << c : 0;
            }
            return bits;
        }

        int crossed() {
            return Integer.bitCount(without());
        }

        boolean better(Day than) {
            return crossed() < than.crossed() || crossed() == than.crossed() && joy > than.joy;
        }
    }

    record Sheet(int sort, int[] cells) {
        void write(int i, int v) {
            cells[i] = sort == 0 ? (byte) v : sort == 1 ? (short) v : v;
        }
    }

    private State now = new State(new ArrayList<>(), new ArrayList<>(), null);
    private final List<PlainText> texts = new ArrayList<>();
    private String tape = "";
    private final Sheet[] sheets = new Sheet[4];
    private State image;

    Plain() {
        texts.add(PlainText.read("yards 0 ; worth 10 - won * 3 ; none 0 - 5 ;"));
        now = new State(now.children, now.races, texts.get(0));
    }

    // ---- how a day goes

    private static int bound(int v, int least) {
        return v < least ? least : Math.min(v, 99);
    }

    private static int says(State s, int part, int c, Race race, int won) {
        Map<String, Integer> names = new TreeMap<>();
        names.put("speed", s.children.get(c).speed);
        names.put("luck", s.children.get(c).luck);
        names.put("won", won);
        names.put("more", race == null ? 0 : race.more);
        names.put("runners", race == null ? 0 : Integer.bitCount(race.runners));
        names.put("race", race == null ? 0 : race.number);
        return bound(s.law.value(part, names), part == 0 ? 0 : -99);
    }

    private static int score(State s, int c, Race race, int won) {
        Child child = s.children.get(c);
        int yards = bound(says(s, 0, c, race, won) + child.yards, 0);
        int sack = child.speed / 2 + child.luck;
        int egg = child.luck + race.more;
        int[] does = {child.speed, sack, egg, 99 - sack, egg - child.speed, (7 * child.speed + 3 * child.luck + race.more) % 31};
        int[] count = {yards, yards, yards, yards * race.more / 2, -yards, yards};
        return does[race.kind] + count[race.kind];
    }

    private static List<Integer> comeIn(State s, Race race, int[] won) {
        List<Integer> line = new ArrayList<>();
        for (int c = 0; c < s.children.size(); c++) {
            if ((race.runners & 1 << c) != 0) {
                line.add(c);
            }
        }
        line.sort(Comparator.<Integer>comparingInt(c -> -score(s, c, race, won[c])).thenComparingInt(c -> c));
        return line;
    }

    private static int forHowMany(Race race) {
        int runners = Integer.bitCount(race.runners);
        boolean egg = race.kind == 2 || race.kind == 4;
        int many = race.kind == 5 ? runners / 2 : egg && runners < 3 ? 1 : race.ribbons;
        return Math.min(many, runners);
    }

    private static Day day(State s) {
        int joy = 0;
        int ribbons = 0;
        int[] won = new int[s.children.size()];
        Map<Integer, Integer> winners = new TreeMap<>();
        for (Race race : s.races) {
            int bits = 0;
            for (int c : comeIn(s, race, won).subList(0, forHowMany(race))) {
                joy += says(s, 1, c, race, won[c]);
                won[c]++;
                bits |= 1 << c;
                ribbons++;
            }
            winners.put(race.number, bits);
        }
        for (int c = 0; c < won.length; c++) {
            joy += won[c] == 0 ? says(s, 2, c, null, 0) : 0;
        }
        return new Day(joy, won, winners, ribbons);
    }

    // ---- children, the law

    private boolean isChild(int c) {
        return c >= 0 && c < now.children.size();
    }

    private boolean isRace(int r) {
        return r >= 0 && r < now.races.size();
    }

    private boolean areChildren(int bits) {
        return bits >= 0 && bits < 1 << now.children.size();
    }

    int count(int what) {
        return what < 0 || what > 4 ? -2
            : new int[] {now.races.size(), now.children.size(), texts.size(), texts.indexOf(now.law), tape.length()}[what];
    }

    int child(int speedLuck) {
        if (speedLuck < 0 || speedLuck > 9999) {
            return -2;
        }
        if (now.children.size() == 8) {
            return -4;
        }
        now.children.add(new Child(speedLuck / 100, speedLuck % 100, 0));
        return now.children.size() - 1;
    }

    int put(int c, int what, int v) {
        if (!isChild(c)) {
            return -5;
        }
        if (what < 0 || what > 2 || v < 0 || v > 99) {
            return -7;
        }
        int was = now.children.get(c).get(what);
        now = now.withChild(c, now.children.get(c).with(what, v));
        return was;
    }

    int told(int c, int what) {
        return !isChild(c) ? -5 : what < 0 || what > 2 ? -7 : now.children.get(c).get(what);
    }

    int feed(int n, int a, int b, int c, int d, int e) {
        if (n < 1 || n > 5 || ((a | b | c | d | e) & ~255) != 0) {
            return -2;
        }
        if (tape.length() + n > 160) {
            return -4;
        }
        tape += new String(new char[] {(char) a, (char) b, (char) c, (char) d, (char) e}).substring(0, n);
        return tape.length();
    }

    int text() {
        if (texts.size() == 6) {
            return -4;
        }
        String read = tape;
        tape = "";
        try {
            texts.add(PlainText.read(read));
            return texts.size() - 1;
        } catch (PlainText.Fault fault) {
            return -100 - fault.place;
        }
    }

    int force(int t) {
        if (t < 0 || t >= texts.size()) {
            return -2;
        }
        int was = texts.indexOf(now.law);
        now = new State(now.children, now.races, texts.get(t));
        return was;
    }

    int asks(int part, int c, int r, int wins) {
        if (part < 0 || part > 2 || !isChild(c) || r != -1 && !isRace(r) || wins < 0 || wins > 6) {
            return -1000;
        }
        return says(now, part, c, r == -1 ? null : now.races.get(r), wins);
    }

    // ---- races

    int race(int kindMore, int who) {
        if (kindMore < 0 || kindMore > 59 || !areChildren(who)) {
            return -2;
        }
        int r = now.races.size();
        if (r == 6) {
            return -4;
        }
        now.races.add(new Race(r, kindMore / 10, kindMore % 10, who, 1));
        return r;
    }

    int enter(int r, int what, int v) {
        if (!isRace(r)) {
            return -6;
        }
        if (what == 0 && areChildren(v) || what == 1 && v >= 0 && v <= 3) {
            Race was = now.races.get(r);
            now = now.withRace(r, was.with(2 + what, v));
            return was.get(2 + what);
        }
        return -7;
    }

    int card(int r, int what) {
        return !isRace(r) ? -6 : what < 0 || what > 3 ? -7 : now.races.get(r).get(what);
    }

    int comes(int r, int k) {
        if (!isRace(r)) {
            return -6;
        }
        if (k < 0 || k > 7) {
            return -7;
        }
        List<Integer> line = comeIn(now, now.races.get(r), new int[8]);
        return k < line.size() ? line.get(k) : -1;
    }

    int does(int c, int r) {
        return !isChild(c) ? -1005 : !isRace(r) ? -1006 : score(now, c, now.races.get(r), 0);
    }

    int day(int what) {
        Day day = day(now);
        if (what >= 10 && what < 18 && isChild(what - 10)) {
            return day.won[what - 10];
        }
        return what == 0 ? day.without() : what == 1 ? day.crossed() : what == 2 ? day.joy : what == 3 ? day.ribbons : -1000;
    }

    // ---- what would be best

    private int best(int what, TreeMap<Integer, State> others) {
        if (what < 0 || what > 2) {
            return -1000;
        }
        Day best = day(now);
        int found = -1;
        for (Map.Entry<Integer, State> other : others.entrySet()) {
            Day day = day(other.getValue());
            if (day.better(best)) {
                best = day;
                found = other.getKey();
            }
        }
        return what == 0 ? found : what == 1 ? best.crossed() : best.joy;
    }

    private TreeMap<Integer, State> changed(boolean wereRunners) {
        TreeMap<Integer, State> others = new TreeMap<>();
        for (Race race : now.races) {
            for (int c = 0; c < now.children.size(); c++) {
                if ((race.runners & 1 << c) != 0 == wereRunners) {
                    others.put(10 * race.number + c, now.withRace(race.number, race.with(2, race.runners ^ 1 << c)));
                }
            }
        }
        return others;
    }

    int let(int what) {
        return best(what, changed(false));
    }

    int spare(int what) {
        return best(what, changed(true));
    }

    int drop(int what) {
        TreeMap<Integer, State> others = new TreeMap<>();
        for (Race race : now.races) {
            List<Race> left = new ArrayList<>(now.races);
            left.remove(race);
            others.put(race.number, now.withRaces(left));
        }
        return best(what, others);
    }

    int order(int what) {
        TreeMap<Integer, State> others = new TreeMap<>();
        permute(new ArrayList<>(), 0, others);
        return best(what, others);
    }

    private void permute(List<Race> ahead, int digits, TreeMap<Integer, State> others) {
        if (ahead.size() == now.races.size()) {
            others.put(digits, now.withRaces(new ArrayList<>(ahead)));
        }
        for (Race race : now.races) {
            if (!ahead.contains(race)) {
                ahead.add(race);
                permute(ahead, 10 * digits + race.number + 1, others);
                ahead.remove(ahead.size() - 1);
            }
        }
    }

    int tie(int what) {
        TreeMap<Integer, State> others = new TreeMap<>();
        for (Race race : now.races) {
            for (int n = 0; n <= 3; n++) {
                others.put(10 * race.number + n, now.withRace(race.number, race.with(3, n)));
            }
        }
        return best(what, others);
    }

    int needs(int c, int wins) {
        if (!isChild(c)) {
            return -5;
        }
        if (wins < 0 || wins > 6) {
            return -7;
        }
        for (int v = 0; v < 100; v++) {
            if (day(now.withChild(c, now.children.get(c).with(2, v))).won[c] >= wins) {
                return v;
            }
        }
        return -1;
    }

    // ---- told days

    private int judged(State s, Sheet sheet) {
        Day day = day(s);
        for (Race race : s.races) {
            if (day.winners.get(race.number) != sheet.cells[race.number]) {
                return race.number;
            }
        }
        return -1;
    }

    private int refusal(int s) {
        return s < 0 || s > 3 ? -2 : sheets[s] == null ? -11 : sheets[s].cells.length != now.races.size() ? -2 : 0;
    }

    int judge(int s) {
        return refusal(s) != 0 ? refusal(s) : judged(now, sheets[s]);
    }

    int kinds(int s, int r, int sort) {
        if (refusal(s) != 0) {
            return refusal(s);
        }
        if (!isRace(r)) {
            return -6;
        }
        if (sort < 0 || sort > 2) {
            return -7;
        }
        int bits = 0;
        for (int v = 0; v <= new int[] {5, 9, 3}[sort]; v++) {
            bits |= judged(now.withRace(r, now.races.get(r).with(sort == 2 ? 3 : sort, v)), sheets[s]) == -1 ? 1 << v : 0;
        }
        return bits;
    }

    int quick(int s, int c, int sortWhat) {
        if (refusal(s) != 0) {
            return refusal(s);
        }
        if (!isChild(c)) {
            return -5;
        }
        if (!Arrays.asList(0, 1, 10, 11, 20, 21).contains(sortWhat)) {
            return -7;
        }
        List<Integer> fit = new ArrayList<>();
        for (int v = 0; v < 100; v++) {
            if (judged(now.withChild(c, now.children.get(c).with(sortWhat / 10, v)), sheets[s]) == -1) {
                fit.add(v);
            }
        }
        return sortWhat % 10 == 0 ? fit.size() : fit.isEmpty() ? -1 : Collections.min(fit);
    }

    int laws(int s) {
        if (refusal(s) != 0) {
            return refusal(s);
        }
        int bits = 0;
        for (int t = 0; t < texts.size(); t++) {
            bits |= judged(new State(now.children, now.races, texts.get(t)), sheets[s]) == -1 ? 1 << t : 0;
        }
        return bits;
    }

    int film(int s) {
        if (s < 0 || s > 3) {
            return -2;
        }
        Day day = day(now);
        sheets[s] = new Sheet(1, day.winners.values().stream().mapToInt(w -> w).toArray());
        return day.ribbons;
    }

    // ---- luck by lots

    private Day dayBy(int seed) {
        State s = now;
        long lot = seed + 1L;
        for (int c = 0; c < now.children.size(); c++) {
            lot = lot * 48271 % 2147483647;
            s = s.withChild(c, s.children.get(c).with(1, (int) (lot % 100)));
        }
        return day(s);
    }

    int drawn(int seed, int what) {
        if (seed < 0 || seed > 99999 || what < 0 || what > 1) {
            return -1000;
        }
        return what == 0 ? dayBy(seed).crossed() : dayBy(seed).joy;
    }

    long odds(int seed, int seeds, int most, int part) {
        if (seed < 0 || seed > 99999 || seeds < 1 || seeds > 60 || most < 0 || most > 8 || part < 0 || part > 1) {
            return -4611686018427387904L;
        }
        int good = 0;
        for (int i = 0; i < seeds; i++) {
            good += dayBy(seed + i).crossed() <= most ? 1 : 0;
        }
        int below = seeds;
        for (int d = 60; d > 1; d--) {
            if (good % d == 0 && below % d == 0) {
                good /= d;
                below /= d;
            }
        }
        return part == 0 ? good : below;
    }

    int image() {
        image = new State(new ArrayList<>(now.children), new ArrayList<>(now.races), now.law);
        return now.races.size();
    }

    int back() {
        if (image == null) {
            return -3;
        }
        now = new State(new ArrayList<>(image.children), new ArrayList<>(image.races), image.law);
        return now.races.size();
    }

    // ---- the host

    int sheet(int s, int sort, int n) {
        if (s < 0 || s > 3 || sort < -1 || sort > 2 || sort != -1 && n > 40) {
            return -2;
        }
        if (sort != -1 && n < 0) {
            return -14;
        }
        sheets[s] = sort == -1 ? null : new Sheet(sort, new int[n]);
        return 1;
    }

    int cell(int s, int i, int v) {
        if (s < 0 || s > 3) {
            return -2;
        }
        if (sheets[s] == null) {
            return -11;
        }
        if (i < 0 || i >= sheets[s].cells.length) {
            return -12;
        }
        sheets[s].write(i, v);
        return 1;
    }

    int copy(int s, int i, int other, int j, int n) {
        if (s < 0 || s > 3 || other < 0 || other > 3) {
            return -2;
        }
        Sheet from = sheets[s];
        Sheet into = sheets[other];
        if (from == null || into == null) {
            return -11;
        }
        if (from.sort != into.sort) {
            return -13;
        }
        if (i < 0 || j < 0 || n < 0 || (long) i + n > from.cells.length || (long) j + n > into.cells.length) {
            return -12;
        }
        int[] were = from.cells.clone();
        for (int k = 0; k < n; k++) {
            into.cells[j + k] = were[i + k];
        }
        return n;
    }

    int childrenBy(int s, int sort, int at, int n) {
        if (s < 0 || s > 3 || sort < 0 || sort > 2 || n < 0 || n > 8) {
            return -2;
        }
        if (sheets[s] == null) {
            return -11;
        }
        if (sheets[s].sort != sort) {
            return -13;
        }
        int came = 0;
        for (long i = at; i < (long) at + n; i++) {
            if (i < 0 || i >= sheets[s].cells.length) {
                return -12;
            }
            came += child(sheets[s].cells[(int) i]) >= 0 ? 1 : 0;
        }
        return came;
    }

    int taken(int i, int kind) {
        if (kind < 0 || kind > 6) {
            return -2;
        }
        if (i < 0 || i > 13) {
            return -12;
        }
        if (i < 6 ? !isRace(i) : !isChild(i - 6)) {
            return -11;
        }
        if (i >= 6) {
            return kind == 6 ? now.children.get(i - 6).speed : -13;
        }
        String[] are = {"0", "01", "02", "013", "024", "05"};
        return are[now.races.get(i).kind].indexOf('0' + kind) >= 0 ? i : -13;
    }
}
