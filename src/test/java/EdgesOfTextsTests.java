import java.util.ArrayList;
import java.util.List;
import java.util.function.Supplier;

/** Boundary cases of promise 7, sentence by sentence: what a TEXT is, where its FAULT is. */
public final class EdgesOfTextsTests {
    private static final Edges edges = new Edges();

    public static void main(String[] args) {
        texts();
        nothingIsLeftOfFaults();
        textsAllFull();
        emptyTape();
        wholeTape();
        blanks();
        bytesThatBeginNone();
        words();
        numbers();
        signs();
        tokensAreAsLongAsCanBe();
        parts();
        alternatives();
        endsTooEarly();
        theFirstFault();
        fiveOpen();
        sixOpen();
        openTillTheirEnds();
        deepest();
        edges.end();
    }

    /** A text that must be right. */
    private static void right(String text) {
        EveryoneWins x = new EveryoneWins();
        Given.tape(x, text);
        edges.due(text, x, "text()", 1);
        edges.due(text, x, "count(4)", 0);
        edges.due(text, x, "count(2)", 2);
    }

    /** A text whose FAULT is where the | stands. */
    private static void fault(String marked) {
        int place = marked.indexOf('|');
        EveryoneWins x = new EveryoneWins();
        Given.tape(x, marked.substring(0, place) + marked.substring(place + 1));
        edges.due(marked, x, "text()", -100 - place);
        edges.due(marked, x, "count(4)", 0);
        edges.due(marked, x, "count(2)", 1);
        edges.due(marked, x, "count(3)", 0);
    }

    /** An E that must be right. */
    private static void rightE(String e) {
        right("yards " + e + ";worth " + e + ";none " + e + ";");
    }

    /** An E whose FAULT is where the | stands, in each of the parts. */
    private static void faultE(String marked) {
        fault("yards " + marked + ";worth 1;none 1;");
        fault("yards 1;worth " + marked + ";none 1;");
        fault("yards 1;worth 1;none " + marked + ";");
    }

    /** What an E is for a CHILD of SPEED 7, LUCK 3, that has WON 2, in RACE 1, of MORE 8, with 4 RUNNERS. */
    private static void value(String e, int want) {
        EveryoneWins x = Given.children(703, 0, 0, 0);
        x.race(0, 0);
        x.race(28, 15);
        Given.tape(x, "yards 0;worth " + e + ";none 0;");
        edges.due(e, x, "text()", 1);
        edges.due(e, x, "force(1)", 0);
        edges.due(e, x, "asks(1, 0, 1, 2)", want);
        Given.tape(x, "yards 0;worth 0;none " + e + ";");
        edges.due(e, x, "text()", 2);
        edges.due(e, x, "force(2)", 1);
        edges.due(e, x, "asks(2, 0, 1, 2)", want);
        Given.tape(x, "yards " + e + ";worth 0;none 0;");
        edges.due(e, x, "text()", 3);
        edges.due(e, x, "force(3)", 2);
        edges.due(e, x, "asks(0, 0, 1, 2)", Math.max(0, want));
    }

    private static void texts() {
        edges.sentence("Promise 7: its number, 1 .. 5");
        EveryoneWins x = Given.children(0);
        for (int t = 1; t <= 5; t++) {
            Given.tape(x, "yards " + t + ";worth 0;none 0;");
            edges.due(x, "text()", t);
            edges.due(x, "count(2)", t + 1);
            edges.due(x, "count(3)", 0);
            edges.sentence("Promise 7: THE TAPE is empty by a FAULT, too; no TEXT comes");
            if (t < 5) {
                Given.tape(x, "yards 1;worth 1;none 1");
                edges.due(x, "text()", -122);
                edges.due(x, "count(4)", 0);
                edges.due(x, "count(2)", t + 1);
            }
        }
        for (int t = 1; t <= 5; t++) {
            edges.due(x, "force(" + t + ")", t - 1);
            edges.due(x, "asks(0, 0, -1, 0)", t);
        }
        edges.sentence("Promise 7: by a FAULT THE LAW and all TEXTS are as they were");
        Supplier<EveryoneWins> some = () -> {
            EveryoneWins y = States.SOME.get();
            y.text();
            return y;
        };
        edges.changesNothing(some, "text()", -100);
    }

    private static void nothingIsLeftOfFaults() {
        edges.sentence("Promise 7: of a text with a FAULT nothing is left");
        EveryoneWins x = Given.children(0);
        for (int i = 0; i < 5; i++) {
            Given.tape(x, "yards 9" + "+9".repeat(70) + "#");
            edges.due(x, "text()", -247);
            Given.tape(x, "yards (((((9#");
            edges.due(x, "text()", -112);
            Given.tape(x, "yards 9;worth 9;none 9;9");
            edges.due(x, "text()", -123);
        }
        Given.tape(x, "yards (((((1)))));worth 2;none not not not not not 3;");
        edges.due(x, "text()", 1);
        edges.due(x, "force(1)", 0);
        edges.due(x, "asks(0, 0, -1, 0)", 1);
        edges.due(x, "asks(1, 0, -1, 0)", 2);
        edges.due(x, "asks(2, 0, -1, 0)", 0);
    }

    private static void textsAllFull() {
        edges.sentence("Promise 7: FULL is told ahead of the FAULT; then THE TAPE stays");
        edges.changesNothing(States.FULL, "text()", EveryoneWins.FULL);
        EveryoneWins x = Given.children(0);
        for (int t = 1; t <= 5; t++) {
            Given.tape(x, "yards " + t + ";worth 0;none 0;");
            x.text();
        }
        edges.due(x, "text()", EveryoneWins.FULL);
        edges.due(x, "count(4)", 0);
        Given.tape(x, "#");
        edges.due(x, "text()", EveryoneWins.FULL);
        edges.due(x, "count(4)", 1);
        edges.due(x, "feed(2, 1, 2, 3, 4, 5)", 3);
        edges.due(x, "text()", EveryoneWins.FULL);
        edges.due(x, "count(4)", 3);
    }

    private static void emptyTape() {
        edges.sentence("Promise 7: of an empty TAPE");
        fault("|");
        edges.sentence("Promise 7: of blanks alone the FAULT is at the text's size");
        fault(" |");
        fault("\n|");
        fault(" ".repeat(160) + "|");
    }

    private static void wholeTape() {
        String text = "yards 1;worth 2;none 3;";
        int rest = 160 - text.length();
        edges.sentence("Promise 7: a text of 160 bytes");
        right(text + " ".repeat(rest));
        right(" ".repeat(rest) + text);
        right("yards 1" + "+1".repeat(68) + " ;worth 2;none 3;");
        edges.sentence("Promise 7: a FAULT at the last of 160 bytes");
        fault(text + " ".repeat(rest - 1) + "|#");
        fault(text + " ".repeat(rest - 1) + "|1");
        fault(text + " ".repeat(rest - 1) + "|;");
        edges.sentence("Promise 7: a FAULT behind 160 bytes");
        fault(" ".repeat(160 - 22) + "yards 1;worth 2;none 3|");
        fault("yards 1" + "+1".repeat(76) + "+|");
        edges.sentence("Promise 7: a WORD, a NUMBER of a whole TAPE");
        fault("|" + "a".repeat(160));
        fault("yards |" + "0".repeat(154));
        edges.sentence("Promise 7: 160 TOKENS");
        fault("|" + ";".repeat(160));
    }

    private static void blanks() {
        edges.sentence("Terms: blanks (32, 10) may stand between");
        right(" yards 1;worth 2;none 3;");
        right("\nyards\n1\n;\nworth\n2\n;\nnone\n3\n;\n");
        right("yards  \n 1 ; worth 2 ; none 3 ; \n");
        edges.sentence("Terms: blanks need not stand between");
        right("yards1;worth2;none3;");
        right("yards(1)or(2)and(3);worth-speed;none-1<won;");
        edges.sentence("Terms: no byte but 32 and 10 is a blank");
        for (int b : new int[] {0, 1, 8, 9, 11, 12, 13, 31, 33, 127, 128, 160, 255}) {
            fault("yards|" + (char) b + "1;worth 2;none 3;");
            fault("|" + (char) b + "yards 1;worth 2;none 3;");
            fault("yards 1;worth 2;none 3;|" + (char) b);
        }
    }

    private static void bytesThatBeginNone() {
        edges.sentence("Terms: a byte that begins no TOKEN");
        for (int b = 0; b < 256; b++) {
            boolean begins = b == 32 || b == 10 || b >= 'a' && b <= 'z' || b >= '0' && b <= '9' || "();+-*<=".indexOf(b) >= 0;
            if (!begins) {
                fault("yards 1 |" + (char) b + " ;worth 1;none 1;");
                fault("yards speed|" + (char) b + ";worth 1;none 1;");
                fault("yards |" + (char) b + "1;worth 1;none 1;");
            }
        }
    }

    private static void words() {
        edges.sentence("Terms: NAMES");
        rightE("speed+luck+won+more+runners+race");
        edges.sentence("Terms: a WORD that is neither KEY nor NAME");
        for (String word : new String[] {"speed", "luck", "won", "more", "runners", "race"}) {
            fault("yards |" + word + "s;worth 1;none 1;");
            fault("yards |" + word.substring(1) + ";worth 1;none 1;");
            fault("yards |" + word.substring(0, word.length() - 1) + ";worth 1;none 1;");
            fault("yards |x" + word + ";worth 1;none 1;");
            fault("yards |" + word + word + ";worth 1;none 1;");
            fault("yards |" + word.toUpperCase() + ";worth 1;none 1;");
            fault("yards |" + word.charAt(0) + ";worth 1;none 1;");
        }
        edges.sentence("Terms: a WORD of which one letter is another");
        for (String word : new String[] {"speed", "luck", "won", "more", "runners", "race"}) {
            for (String other : otherWords(word)) {
                fault("yards |" + other + ";worth 1;none 1;");
            }
        }
        for (String other : otherWords("yards")) {
            fault("|" + other + " 1;worth 1;none 1;");
        }
        for (String other : otherWords("worth")) {
            fault("yards 1;|" + other + " 1;none 1;");
        }
        for (String other : otherWords("none")) {
            fault("yards 1;worth 1;|" + other + " 1;");
        }
        for (String word : new String[] {"or", "and"}) {
            for (String other : otherWords(word)) {
                fault("yards 1 |" + other + " 1;worth 1;none 1;");
            }
        }
        for (String other : otherWords("not")) {
            fault("yards |" + other + " 1;worth 1;none 1;");
        }
        edges.sentence("Terms: KEYS can't stand for NAMES, nor NAMES for KEYS");
        for (String key : new String[] {"yards", "worth", "none", "or", "and"}) {
            faultE("|" + key);
            faultE("1+|" + key);
            faultE("(|" + key + ")");
        }
        for (String word : new String[] {"yards", "worth", "none", "or", "and", "not", "speed", "race"}) {
            if (!word.equals("yards")) {
                fault("|" + word + " 1;worth 1;none 1;");
            }
            if (!word.equals("worth")) {
                fault("yards 1;|" + word + " 1;none 1;");
            }
            if (!word.equals("none")) {
                fault("yards 1;worth 1;|" + word + " 1;");
            }
            if (!word.equals("or") && !word.equals("and")) {
                faultE("1 |" + word + " 1");
            }
            if (!word.equals("not") && !word.equals("speed") && !word.equals("race")) {
                faultE("1 and |" + word + " 1");
            }
        }
        edges.sentence("Terms: letters are a .. z");
        fault("yards speed|{;worth 1;none 1;");
        fault("yards speed|`;worth 1;none 1;");
        fault("yards |{;worth 1;none 1;");
        fault("yards |speedz;worth 1;none 1;");
        fault("yards |speeda;worth 1;none 1;");
        fault("yards |zspeed;worth 1;none 1;");
        fault("yards |a;worth 1;none 1;");
        fault("yards |z;worth 1;none 1;");
        fault("yards |Speed;worth 1;none 1;");
        fault("yards |sPeed;worth 1;none 1;");
    }

    /** Of each letter the one ahead and the one behind; of which none is another word. */
    private static List<String> otherWords(String word) {
        List<String> others = new ArrayList<>();
        for (int i = 0; i < word.length(); i++) {
            for (int by : new int[] {-1, 1}) {
                char letter = (char) (word.charAt(i) + by);
                if (letter >= 'a' && letter <= 'z') {
                    others.add(word.substring(0, i) + letter + word.substring(i + 1));
                }
            }
        }
        return others;
    }

    private static void numbers() {
        edges.sentence("Terms: a NUMBER of 1 .. 4 digits");
        rightE("0");
        rightE("00");
        rightE("0000");
        rightE("9999");
        value("0009", 9);
        value("0123-100", 23);
        value("9999-9900", 99);
        value("1000-901", 99);
        edges.sentence("Terms: a NUMBER of more than 4 digits is too long");
        faultE("|00000");
        faultE("|12345");
        faultE("|99999");
        faultE("1+|10000");
        faultE("(|10000)");
        faultE("-|10000");
        faultE("not |10000");
        faultE("1 < |123456");
        edges.sentence("Terms: digits are 0 .. 9");
        faultE("1|/2");
        faultE("1|:2");
        faultE("|.5");
        faultE("1|,5");
    }

    private static void signs() {
        edges.sentence("Terms: SIGNS, each of one byte");
        faultE("1<|=2");
        faultE("1=|=2");
        faultE("1<|<2");
        faultE("1=|<2");
        faultE("1+|+2");
        faultE("1*|*2");
        right("yards 1--2;worth 1+-2;none 1*-2;");
        right("yards ((1));worth 1=-2;none 1<-2;");
        fault("yards 1;|;worth 1;none 1;");
        fault("yards |;worth 1;none 1;");
        for (String sign : new String[] {"+", "*", "<", "=", ")"}) {
            faultE("|" + sign + "1");
            faultE("(|" + sign + "1)");
        }
    }

    private static void tokensAreAsLongAsCanBe() {
        edges.sentence("Terms: TOKENS, each as long as can be");
        fault("|yardsspeed;worth 1;none 1;");
        fault("yards |speedor;worth 1;none 1;");
        fault("yards 1 |orspeed;worth 1;none 1;");
        fault("yards |notspeed;worth 1;none 1;");
        fault("yards |123456;worth 1;none 1;");
        right("yards 1or 1;worth 1and 1;none 1or(1);");
        right("yards1or1and1;worth not1;none not(1);");
        edges.sentence("Terms: a NUMBER ends at a letter, a WORD at a digit");
        faultE("1234 |5");
        faultE("1|speed");
        faultE("speed|1");
        faultE("speed |luck");
        faultE("1 |1");
    }

    private static void parts() {
        edges.sentence("Terms: TEXT: yards E ; worth E ; none E ;");
        fault("yards 1;worth 1;none 1;|yards 1;");
        fault("yards 1;worth 1;none 1;|1");
        fault("yards 1;worth 1;none 1; |)");
        fault("yards 1;worth 1;none 1; |worth 1;");
        fault("yards 1;worth 1;none 1;|;");
        fault("yards 1 |worth 1;none 1;");
        fault("yards 1;worth 1 |none 1;");
        fault("yards |worth 1;none 1;");
        fault("|1;");
        fault("|;");
    }

    private static void alternatives() {
        edges.sentence("Terms: E: AND { or AND }");
        faultE("1 or|");
        edges.sentence("Terms: SUM, perhaps < or = and a SUM: once");
        faultE("1<2|<3");
        faultE("1<2|=3");
        faultE("1=2|<3");
        faultE("1=2|=3");
        faultE("not 1<2|<3");
        rightE("(1<2)<3");
        rightE("1<(2<3)");
        rightE("1<2 and 2<3");
        edges.sentence("Terms: not stands ahead of a NOT alone");
        faultE("1+|not 1");
        faultE("1*|not 1");
        faultE("1<|not 1");
        faultE("1=|not 1");
        faultE("-|not 1");
        faultE("1 |not 1");
        rightE("1+(not 1)");
        rightE("1 or not 1");
        rightE("1 and not 1");
        rightE("not not 1");
        rightE("(not 1)");
        edges.sentence("Terms: what must stand between");
        faultE("1 or |and 1");
        faultE("1 and |or 1");
        faultE("1 or |or 1");
        faultE("not |and 1");
        faultE("1 + |or 1");
        faultE("(1 or |)");
        faultE("(|)");
        faultE("(1)|(1)");
        faultE("1|(1)");
        faultE("1|)");
        faultE("(1)|)");
        faultE("((1)|");
    }

    /** faultE() puts a ; behind; where the text shall end, it is told whole. */
    private static void endsTooEarly() {
        edges.sentence("Terms: the text's size, if it ends too early");
        String text = "yards 1 + ( 2 * not 3 ) ; worth - 4 < 5 ; none 6 or 7 and 8 ;";
        String right = text.replace("not 3", "( not 3 )");
        right(right);
        for (int end = 0; end < right.length(); end++) {
            boolean between = end == 0 || right.charAt(end) == ' ' || right.charAt(end - 1) == ' ' || right.charAt(end) == ';';
            if (between) {
                fault(right.substring(0, end) + "|");
            }
        }
        edges.sentence("Terms: blanks behind are of the text's size");
        fault("yards 1;worth 2;none 3  |");
        fault("yards \n\n|");
        edges.sentence("Terms: a WORD that the end cuts is none");
        fault("|yard");
        fault("yards 1;|wort");
        fault("yards 1;worth 1;|non");
        fault("yards |spee");
        fault("yards |12345");
    }

    private static void theFirstFault() {
        edges.sentence("Terms: of several FAULTS the first");
        fault("|# yards 12345");
        fault("yards |12345 # unknown");
        fault("yards 1 |1 # 12345");
        fault("yards |unknown # 12345");
        fault("yards |) ((((((1");
        fault("yards (((((|((1 #");
        fault("yards 1; |unknown ;;; #");
        fault("yards 1 |worth #");
        edges.sentence("Terms: not one that only later bytes make");
        fault("yards 1 < 2 |< # ");
        fault("yards ( 1 |; #");
    }

    private static void fiveOpen() {
        edges.sentence("Terms: 5 may be open");
        rightE("(((((1)))))");
        rightE("-----1");
        rightE("not not not not not 1");
        right("yards not(-(not 1));worth -(-(-1));none -((-(1)));");
        value("(((((7)))))", 7);
        value("-----7", -7);
        value("----7", 7);
        value("not not not not not 7", 0);
        value("not not not not 7", 1);
        value("-(not(-0))", -1);
    }

    private static void sixOpen() {
        edges.sentence("Terms: a ( , a not, a - while 5 are open");
        String[] fives = {"(((((", "-----", "not not not not not ", "(-(-(", "not not not((", "not not(--", "not(not(-", "-((((", "((((-"};
        for (String five : fives) {
            fault("yards " + five + "|(1");
            fault("yards " + five + "|-1");
            fault("yards 1;worth " + five + "|(1");
            fault("yards 1;worth 1;none " + five + "|-1");
        }
        fault("yards (((((|not 1");
        fault("yards not not not not not |not 1");
        fault("yards not((((|not 1");
        fault("yards (((((1+|-1");
        fault("yards (((((1+|(1");
        fault("yards (((((1 or |not 1");
        fault("yards (((((1 and |not 1");
        fault("yards (((((1*|-1");
        fault("yards (((((1<|-1");
        edges.sentence("Terms: a - behind a ONE opens nothing");
        rightE("(((((1-1-1-1)))))");
        rightE("-----1-1-1");
        edges.sentence("Terms: nor do the other SIGNS and WORDS");
        rightE("(((((1+1*1<1 or 1 and 1)))))");
    }

    private static void openTillTheirEnds() {
        edges.sentence("Terms: a ( is open till its )");
        right("yards (((((1)))))+(((((1)))));worth (((((1)))))*-----1;none 1;");
        right("yards ((((1)+(1)+(1)+(1))));worth 1;none 1;");
        fault("yards ((((1)+((|(1");
        fault("yards (((((1)))+(((|(1");
        edges.sentence("Terms: a - is open till its ONE ends");
        right("yards -----1*-----1+-----1;worth 1;none 1;");
        right("yards (-(-(1)--(1)));worth 1;none 1;");
        fault("yards -(-(1)+(--|(1");
        edges.sentence("Terms: a not is open till its NOT ends");
        right("yards not not not not not 1 and not not not not not 1;worth 1;none 1;");
        right("yards not not not not not 1 or not not not not not 1;worth 1;none 1;");
        fault("yards not not not not not 1<|(1");
        fault("yards not not not not not 1+|(1");
        fault("yards not not not not not 1*|-1");
        right("yards not not not not 1<-1;worth 1;none 1;");
        right("yards not not not not not 1<1 and (((((1)))));worth 1;none 1;");
        edges.sentence("Terms: nothing is open ahead of each part");
        right("yards (((((1)))));worth -----1;none not not not not not 1;");
    }

    /** As many ONES as can be wait at once: 5 of them for each of 5 open ( and outside. */
    private static void deepest() {
        String ahead = "0or3and1<2+1*";
        StringBuilder e = new StringBuilder();
        for (int i = 0; i < 5; i++) {
            e.append(ahead).append("(");
        }
        e.append(ahead).append("1").append(")))))");
        value(e.toString(), 1);
        // 2 + 1 * 1, 3 * that and so on: each of the waiting ones counts.
        value("1+2*(1+2*(1+2*(1+2*(1+2*(1+2*1)))))-100", 27);
        value("4*(3+1*(3+1*(3+1*(3+1*(3+1*1)))))", 64);
        value("0or 0<0+1*(0or 0and 0<0+1*(0or 1and 0<0+1*(0or 1and 0<0+1*(0or 1and 0<0+1*(0or 1and 0<0+1*5)))))", 0);
        value("0or 1and 0<0+1*(0or 1and 0<0+1*(0or 1and 0<0+1*(0or 1and 0<0+1*(0or 1and 0<0+1*(0or 1and 0<0+1*5)))))", 1);
        value("0or 1and 0<0+1*(0or 1and 0<0+1*(0or 1and 0<0+1*(0or 1and 0<0+1*(0or 1and 0<0+1*(0or 1and 0<0+1*0)))))", 0);
    }
}
