/** Promise 7: texts, what they tell and where their FAULTS are. */
public final class TextTests {
    private static final Check check = new Check();

    public static void main(String[] args) {
        numbers();
        full();
        values();
        names();
        rightTexts();
        faults();
        faultsOfWhatIsOpen();
        check.end();
    }

    private static void numbers() {
        EveryoneWins x = new EveryoneWins();
        check.due("a FAULT", Given.text(x, "yards 1; worth"), -114);
        check.due("THE TAPE is empty by a FAULT", x.count(4), 0);
        check.due("no TEXT by a FAULT", x.count(2), 1);
        check.due("a TEXT", Given.text(x, "yards 1; worth 2; none 3;"), 1);
        check.due("THE TAPE is empty", x.count(4), 0);
        check.due("a second", Given.text(x, "yards 4; worth 5; none 6;"), 2);
        check.due("of nothing", x.text(), -100);
        check.due("THE LAW is as it was", x.count(3), 0);
        check.due("open ones and a FAULT", Given.text(x, "yards 7 + (((((8 #"), -117);
        check.due("nothing of it is left", Given.text(x, "yards (((((1))))); worth 2; none 3;"), 3);
        for (int i = 0; i < 3; i++) {
            check.due("a long one and its FAULT", Given.text(x, "yards 1" + "+1".repeat(70) + "#"), -247);
        }
        check.due("nothing of them is left", Given.text(x, "yards (((((1))))); worth 2; none 3;"), 4);
        x.child(0);
        x.force(4);
        check.dueAll("it tells", new long[] {x.asks(0, 0, -1, 0), x.asks(1, 0, -1, 0), x.asks(2, 0, -1, 0)}, 1, 2, 3);
    }

    private static void full() {
        EveryoneWins x = Given.children(0);
        for (int t = 1; t < 6; t++) {
            check.due("TEXT " + t, Given.text(x, "yards 0; worth " + t + "; none 0;"), t);
        }
        check.due("a seventh", Given.text(x, "yards 0; worth 9; none 0;"), EveryoneWins.FULL);
        check.due("THE TAPE stays", x.count(4), 25);
        Given.tape(x, "(");
        check.due("FULL is ahead of the FAULT", x.text(), EveryoneWins.FULL);
        check.due("THE TAPE stays, too", x.count(4), 26);
        for (int t = 1; t < 6; t++) {
            x.force(t);
            check.due("TEXT " + t + " is as it was read", x.asks(1, 0, -1, 0), t);
        }
    }

    /** What worth tells of a CHILD of SPEED 7, LUCK 3, in no RACE, if it has WON 2. */
    private static int worth(String e) {
        EveryoneWins x = Given.children(703);
        Given.law(x, "yards 0;worth " + e + ";none 0;");
        return x.count(3) == 1 ? x.asks(1, 0, -1, 2) : -100000;
    }

    private static void values() {
        Object[][] rows = {
            {"5", 5}, {"0042", 42}, {"1+2*3", 7}, {"(1+2)*3", 9}, {"10-3-2", 5}, {"10-(3-2)", 9}, {"2--3", 5},
            {"-2*3", -6}, {"2*-3", -6}, {"-(2+3)", -5}, {"- - 4", 4}, {"2*3*4", 24}, {"9-2*3+1", 4},
            {"not 0", 1}, {"not 5", 0}, {"not -1", 0}, {"not not 5", 1}, {"not 1<2", 0}, {"not 2<1", 1}, {"not 0=0", 0},
            {"3<3", 0}, {"2<3", 1}, {"4<3", 0}, {"-1<0", 1}, {"3=3", 1}, {"3=4", 0}, {"1+1=2", 1}, {"1+(2<3)", 2},
            {"2 and 3", 1}, {"2 and 0", 0}, {"0 and 2", 0}, {"-1 and 1", 1}, {"0 or 0", 0}, {"0 or 9", 1}, {"9 or 0", 1},
            {"4 or 4", 1}, {"1 or 0 and 0", 1}, {"(1 or 0) and 0", 0}, {"0 and 0 or 1", 1}, {"not 0 and 0", 0},
            {"not (0 and 0)", 1}, {"not 0 or 1", 1}, {"1 and 1 and 0", 0}, {"0 or 0 or 3", 1}, {"5=5 and 2<1", 0},
            {"(7)", 7}, {"((7))", 7}, {"9999", 99}, {"-9999", -99}, {"9999-9950", 49},
            // 9999 * 9999 * 22 is 2199560022, of 32 bits below 0; 43 times it is 4299140043, of 32 bits above 0.
            {"9999*9999*22", -99}, {"0-9999*9999*22", 99}, {"9999*9999*22<0", 1}, {"9999*9999*43", 99},
            {"9999*9999*43-4172*1000-740", 7},
        };
        for (Object[] row : rows) {
            check.due((String) row[0], worth((String) row[0]), (Integer) row[1]);
        }
    }

    private static void names() {
        check.due("speed", worth("speed"), 7);
        check.due("luck", worth("luck"), 3);
        check.due("won", worth("won"), 2);
        check.due("more", worth("more"), 0);
        check.due("runners", worth("runners"), 0);
        check.due("race", worth("race"), 0);
        check.due("all", worth("speed*luck-won"), 19);
        EveryoneWins x = Given.children(703, 0, 0);
        x.race(9, 0);
        x.race(28, 5);
        Given.law(x, "yards more*10+runners; worth race; none speed*0+race*10+more;");
        check.due("more, runners of RACE 1", x.asks(0, 0, 1, 0), 82);
        check.due("more, runners of RACE 0", x.asks(0, 0, 0, 0), 90);
        check.due("race 1", x.asks(1, 0, 1, 0), 1);
        check.due("race 1, none", x.asks(2, 0, 1, 0), 18);
    }

    private static void rightTexts() {
        String[] right = {
            "yards 0 ; worth 10 - won * 3 ; none 0 - 5 ;",
            "yards1;worth2;none3;",
            " \n yards\n1 ;\nworth 2 ; none 3 ; \n ",
            "yards 9999; worth 0000; none 0;",
            "yards not not not not not 1; worth -----1; none (((((1)))));",
            "yards not not not not not 1 and not 1; worth -----1 - -----1; none (((((1))))) + (((((1)))));",
            "yards not 1 and (((((2))))); worth -1 + (((((2))))); none ((1)) * ((((2))));",
            "yards not 1 < ((((2)))); worth -((((2)))) - 1; none not -(not -1);",
            "yards speed; worth luck; none won or more and runners < race;",
        };
        for (String text : right) {
            check.due(text, Given.text(new EveryoneWins(), text), 1);
        }
        StringBuilder longest = new StringBuilder("yards 1;worth 2;none 3");
        while (longest.length() < 159) {
            longest.append(longest.length() % 2 == 0 ? '+' : '1');
        }
        // It ends with 160 bytes, the last of them the semicolon.
        longest.setCharAt(158, ' ');
        check.due(longest + ";", Given.text(new EveryoneWins(), longest + ";"), 1);
    }

    private static void fault(String text, int place) {
        check.due(text, Given.text(new EveryoneWins(), text), -100 - place);
    }

    private static void faults() {
        fault("", 0);
        fault("   ", 3);
        fault("\n yards", 7);
        fault("worth 1;", 0);
        fault("yards 1; none 2;", 9);
        fault("yards 1; worth 2; none 3", 24);
        fault("yards 1; worth 2; none 3 ", 25);
        fault("yards 1; worth 2; none 3; x", 26);
        fault("yards 1; worth 2; none 3; 4", 26);
        fault("yards 1; worth 2; none 3;;", 25);
        fault("yards 1; worth 2; none 3; yards", 26);
        fault("yards 12345; worth", 6);
        fault("yards 00001; worth", 6);
        fault("yards 1234 5;", 11);
        fault("yards 1 2", 8);
        fault("Yards 1", 0);
        fault("yardS 1", 0);
        fault("xards 1", 0);
        fault("yards apeed", 6);
        fault("yards speedz", 6);
        fault("yards speed{", 11);
        fault("yards speed`", 11);
        fault("yards 1:", 7);
        fault("yards 1/", 7);
        fault("yards 1,", 7);
        fault("yards speeds;", 6);
        fault("yards spee;", 6);
        fault("yards speedluck;", 6);
        fault("yards yards", 6);
        fault("yards or 1", 6);
        fault("yards ;", 6);
        fault("yards 1 ) ;", 8);
        fault("yards (1 ;", 9);
        fault("yards ()", 7);
        fault("yards 1 < 2 < 3;", 12);
        fault("yards 1 = 2 = 3;", 12);
        fault("yards 1 < 2 = 3;", 12);
        fault("yards 1 + not 2;", 10);
        fault("yards - not 2;", 8);
        fault("yards 1 < not 2;", 10);
        fault("yards 1 + * 2;", 10);
        fault("yards + 2;", 6);
        fault("yards 1 and or 2;", 12);
        fault("yards 1 speed;", 8);
        fault("yards 1worth", 7);
        fault("yards 1<=2;", 8);
        fault("yards 1 > 2", 8);
        fault("yards 1 / 2", 8);
        fault("yards\t1", 5);
        fault("yards\r1", 5);
        fault("yards " + (char) 200, 6);
        fault("yards 1 " + (char) 0, 8);
        fault("yards 1 + # 99999 unknown", 10);
        fault("yards 1 1 #", 8);
        fault("yards 1 +", 9);
        fault("yards 1 + \n", 11);
    }

    private static void faultsOfWhatIsOpen() {
        fault("yards not not not not not not 1;", 26);
        fault("yards ------1;", 11);
        fault("yards ((((((1", 11);
        fault("yards (-(not (-1", 14);
        fault("yards not 1 < (((((2", 18);
        fault("yards not 1 + (((((2", 18);
        fault("yards -(((((2", 11);
        fault("yards (1 + (2 * (3 + (4 * (5 + (6", 31);
        fault("yards (((((1 + -2", 15);
        fault("yards (((((not 2", 11);
        fault("yards (((((1)))) + (((((2", 23);
    }
}
