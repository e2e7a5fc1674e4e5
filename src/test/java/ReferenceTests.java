import java.util.Random;

/** Many runs of calls, each answered by the class and by the plain model of the document. */
public final class ReferenceTests {
    private static final int RUNS = 1500, CALLS = 120;
    private static final Check check = new Check();

    private final Random random;
    private final int run;
    private final EveryoneWins x = new EveryoneWins();
    private final Plain plain = new Plain();

    private ReferenceTests(int run) {
        this.run = run;
        random = new Random(run);
    }

    public static void main(String[] args) {
        for (int run = 0; run < RUNS; run++) {
            new ReferenceTests(run).calls();
        }
        check.end();
    }

    private void calls() {
        for (int i = 0; i < CALLS; i++) {
            callOnce(random.nextInt(40), i);
        }
    }

    /** Mostly 0 .. most, now and then something else. */
    private int some(int most) {
        int die = random.nextInt(60);
        return die == 0 ? -1 : die == 1 ? most + 1 : die == 2 ? random.nextInt() : random.nextInt(most + 1);
    }

    private int child() {
        return some(Math.max(0, x.count(1) - 1));
    }

    private int race() {
        return some(Math.max(0, x.count(0) - 1));
    }

    private int runners() {
        return some((1 << x.count(1)) - 1);
    }

    private void same(String call, long got, long want) {
        check.due("run " + run + ": " + call, got, want);
    }

    private void callOnce(int which, int i) {
        int a;
        int b;
        int c;
        int d;
        int e;
        switch (which) {
            case 0: a = some(4); same("count", x.count(a), plain.count(a)); break;
            case 1: case 2: a = some(9999); same("child", x.child(a), plain.child(a)); break;
            case 3: a = child(); b = some(2); c = some(99); same("put", x.put(a, b, c), plain.put(a, b, c)); break;
            case 4: a = child(); b = some(2); same("told", x.told(a, b), plain.told(a, b)); break;
            case 5: feedBytes(); break;
            case 6: case 7: aText(); break;
            case 8: a = some(Math.max(0, x.count(2) - 1)); same("force", x.force(a), plain.force(a)); break;
            case 9: a = some(2); b = child(); c = race(); d = some(6); same("asks", x.asks(a, b, c, d), plain.asks(a, b, c, d)); break;
            case 10: case 11: case 12: a = some(59); b = runners(); same("race", x.race(a, b), plain.race(a, b)); break;
            case 13: a = race(); b = some(1); c = b == 0 ? runners() : some(3);
                same("enter", x.enter(a, b, c), plain.enter(a, b, c)); break;
            case 14: a = race(); b = some(3); same("card", x.card(a, b), plain.card(a, b)); break;
            case 15: a = race(); b = some(7); same("comes", x.comes(a, b), plain.comes(a, b)); break;
            case 16: a = child(); b = race(); same("does", x.does(a, b), plain.does(a, b)); break;
            case 17: theDay(); break;
            case 18: a = some(2); same("let", x.let(a), plain.let(a)); break;
            case 19: a = some(2); same("spare", x.spare(a), plain.spare(a)); break;
            case 20: a = some(2); same("drop", x.drop(a), plain.drop(a)); break;
            case 21: a = some(2); if (i % 4 == 0) { same("order", x.order(a), plain.order(a)); } break;
            case 22: a = some(2); same("tie", x.tie(a), plain.tie(a)); break;
            case 23: a = child(); b = random.nextInt(4); same("needs", x.needs(a, b), plain.needs(a, b)); break;
            default: callOther(which); break;
        }
    }

    private void callOther(int which) {
        int a = some(3);
        int b;
        int c;
        int d;
        int e;
        switch (which) {
            case 24: tellAlmostTheDay(a); same("judge", x.judge(a), plain.judge(a)); break;
            case 25: case 26: b = race(); c = some(2); tellAlmostTheDay(a);
                same("kinds", x.kinds(a, b, c), plain.kinds(a, b, c)); break;
            case 27: case 28: b = child(); c = 10 * random.nextInt(3) + some(1); tellAlmostTheDay(a);
                same("quick", x.quick(a, b, c), plain.quick(a, b, c)); break;
            case 29: tellAlmostTheDay(a); same("laws", x.laws(a), plain.laws(a)); break;
            case 30: same("film", x.film(a), plain.film(a)); break;
            case 31: b = some(99999); c = some(1); same("drawn", x.drawn(b, c), plain.drawn(b, c)); break;
            case 32: b = some(99999); c = 1 + some(59); d = some(8); e = some(1);
                same("odds", x.odds(b, c, d, e), plain.odds(b, c, d, e)); break;
            case 33: same("image", x.image(), plain.image()); break;
            case 34: if (random.nextInt(3) == 0) { same("back", x.back(), plain.back()); } break;
            case 35: b = some(3) - 1; c = random.nextBoolean() ? x.count(0) : some(40);
                same("sheet", x.sheet(a, b, c), plain.sheet(a, b, c)); break;
            case 36: b = some(6); c = random.nextBoolean() ? some(9999) : random.nextInt(70000) - 300;
                same("cell", x.cell(a, b, c), plain.cell(a, b, c)); break;
            case 37: b = some(6); c = random.nextInt(4); d = some(6); e = some(4);
                same("copy", x.copy(a, b, c, d, e), plain.copy(a, b, c, d, e)); break;
            case 38: b = some(2); c = some(6); d = some(8);
                same("childrenBy", x.childrenBy(a, b, c, d), plain.childrenBy(a, b, c, d)); break;
            default: b = some(13); c = some(6); same("taken", x.taken(b, c), plain.taken(b, c)); break;
        }
    }

    private void theDay() {
        for (int what = -1; what < 20; what++) {
            same("day(" + what + ")", x.day(what), plain.day(what));
        }
    }

    /** So that there is something to find, a SHEET becomes the day, perhaps with one number changed. */
    private void tellAlmostTheDay(int s) {
        if (random.nextInt(5) > 0) {
            same("film", x.film(s), plain.film(s));
            if (random.nextBoolean()) {
                int i = race();
                int v = runners();
                same("cell", x.cell(s, i, v), plain.cell(s, i, v));
            }
        }
    }

    private void feed(String bytes) {
        for (int i = 0; i < bytes.length(); i += 5) {
            int n = Math.min(5, bytes.length() - i);
            int[] b = new int[5];
            for (int k = 0; k < n; k++) {
                b[k] = bytes.charAt(i + k);
            }
            same("feed", x.feed(n, b[0], b[1], b[2], b[3], b[4]), plain.feed(n, b[0], b[1], b[2], b[3], b[4]));
        }
    }

    private void feedBytes() {
        int n = 1 + some(4);
        int a = some(255);
        int b = some(255);
        same("feed", x.feed(n, a, b, a, b, a), plain.feed(n, a, b, a, b, a));
    }

    private void aText() {
        StringBuilder bytes = new StringBuilder("yards ");
        addE(bytes, 0, 3);
        bytes.append(";worth ");
        addE(bytes, 0, 3);
        bytes.append(random.nextBoolean() ? ";none " : " ; none\n");
        addE(bytes, 0, 2);
        bytes.append(random.nextBoolean() ? ";" : " ; ");
        for (int i = random.nextInt(4); i > 1; i--) {
            spoil(bytes);
        }
        String whole = bytes.length() > 160 ? bytes.substring(0, random.nextInt(160)) : bytes.toString();
        if (x.count(4) > 0 && random.nextBoolean()) {
            same("text of the rest", x.text(), plain.text());
        }
        feed(whole);
        same("text of " + whole, x.text(), plain.text());
        int last = x.count(2) - 1;
        same("force", x.force(last), plain.force(last));
        // While there is no room for a text, the one that stands on the tape can't be taken from it.
    }

    private void spoil(StringBuilder bytes) {
        String[] pieces = {"(", ")", "-", "not ", " or ", " and ", ";", "<", "=", "*", "+", "7", "12345", " won", "x", "#", " ", "none"};
        int at = random.nextInt(bytes.length());
        if (random.nextBoolean()) {
            bytes.deleteCharAt(at);
        } else {
            bytes.insert(at, pieces[random.nextInt(pieces.length)]);
        }
    }

    private static final String[] NAMES = {"speed", "luck", "won", "more", "runners", "race"};
    private static final String[] JOINTS = {" or ", " and ", " < ", "=", "+", " - ", "*", "*", "+", "-"};

    private void addE(StringBuilder bytes, int depth, int most) {
        switch (depth >= most ? random.nextInt(2) : random.nextInt(9)) {
            case 0: bytes.append(random.nextInt(3) == 0 ? random.nextInt(10000) : random.nextInt(50)); break;
            case 1: bytes.append(NAMES[random.nextInt(6)]); break;
            case 2: bytes.append("-"); addE(bytes, depth + 1, most); break;
            case 3: bytes.append("("); addE(bytes, depth + 1, most); bytes.append(")"); break;
            case 4: bytes.append("(not "); addE(bytes, depth + 1, most); bytes.append(")"); break;
            default:
                addE(bytes, depth + 1, most);
                bytes.append(JOINTS[random.nextInt(JOINTS.length)]);
                addE(bytes, depth + 1, most);
                break;
        }
    }
}
