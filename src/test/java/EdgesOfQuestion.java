/** Boundary cases of promise 37: questions (Terms, IV). */
final class EdgesOfQuestion {
    private static final int NONE = EvenOars.NONE;
    private static final long NOTHING = EvenOars.NOTHING;
    private static final String TWO = "seat 1 arm 99;seat 99 arm 99;rower a strength 99 tires 9;"
            + "rower b strength 99 tires 0;want 3 is 0;near 9999;";

    private EdgesOfQuestion() {
    }

    static void run() {
        emptyQuestion();
        noneHolds();
        heldFirstAndLast();
        hundredOn();
        until9999();
        numbers();
        heldValues();
        quotients();
        nothingBesides();
        likeAndUnlike();
        joinedFacts();
        sevenOpen();
        sixOpenAgain();
        faultsAtTheEnd();
        faultsOfWords();
        faultsOfBlanks();
        faultsOfNumbers();
        fullTape();
        questionsInTurn();
        tapeGoesAllStays();
    }

    private static EvenOars at(int stroke) {
        EvenOars oars = Tapes.boat(TWO);
        for (int left = stroke; left > 0; left -= 200) {
            oars.stroke(Math.min(200, left));
        }
        return oars;
    }

    private static void answers(String question, EvenOars oars, long due) {
        Check.edge(37, question, Tapes.ask(oars, question), due);
        Check.edge(37, question + ", no FAULT", oars.fault(0), 0);
        Check.edge(37, question + ", no place", oars.fault(1), NONE);
    }

    private static void answers(String question, long due) {
        answers(question, at(0), due);
    }

    private static void faulty(String question, int kind, int place) {
        EvenOars oars = at(0);
        Check.edge(37, "NOTHING with a FAULT: " + question, Tapes.ask(oars, question), NOTHING);
        Check.edge(5, "of the question " + question, oars.fault(0), kind);
        Check.edge(5, "its place in the question " + question, oars.fault(1), place);
        for (int k = 0; k < 6; k++) {
            Check.edge(41, "a question's FAULT is not counted: " + question, oars.status(k), 0);
        }
    }

    // Promise 37: NOTHING with a FAULT: an empty tape, blanks alone.
    private static void emptyQuestion() {
        Check.edge(37, "empty tape of a new object", new EvenOars().ask(), NOTHING);
        faulty("", 1, 0);
        faulty(" \n ", 1, 3);
    }

    // Promise 37: NONE of first, last, when its TEST holds in none; 0 of often.
    private static void noneHolds() {
        answers("first not all", NONE);
        answers("last not all", NONE);
        answers("often not all", 0);
        answers("first stroke > 100", NONE);
        answers("last stroke < 0", NONE);
    }

    // Terms IV: the first, the last STROKE, at the ends of those that are asked.
    private static void heldFirstAndLast() {
        answers("first all", 0);
        answers("last stroke = 0", 0);
        answers("last all", 100);
        answers("first stroke = 100", 100);
        answers("often stroke = 100", 1);
        answers("first stroke > 99", 100);
        answers("last stroke < 1", 0);
        answers("often all", 101);
        answers("total stroke", 5050);
        answers("most stroke", 100);
        answers("least stroke", 0);
        answers("first force 0 = 90", 10);
        answers("last force 0 = 90", 19);
        answers("last force 0 > 0", 100);
        answers("least force 0", 9);
    }

    // Terms IV: all STROKES from now on, 100 on at most.
    private static void hundredOn() {
        answers("first all", at(9), 9);
        answers("last all", at(9), 109);
        answers("first force 0 = 0", at(9), NONE);
        answers("first force 0 = 0", at(10), 110);
        answers("most force 0", at(10), 90);
        answers("most force 0", at(9), 99);
        answers("often all", at(9898), 101);
        answers("last all", at(9898), 9998);
    }

    // Terms IV: 9999 at most.
    private static void until9999() {
        answers("last all", at(9899), 9999);
        answers("often all", at(9899), 101);
        answers("last all", at(9900), 9999);
        answers("often all", at(9900), 100);
        answers("often all", at(9998), 2);
        answers("often all", at(9999), 1);
        answers("first all", at(9999), 9999);
        answers("total stroke", at(9999), 9999);
        answers("first stroke > 9999", at(9999), NONE);
    }

    // Terms IV: N of 1 to 5 digits.
    private static void numbers() {
        answers("most 0", 0);
        answers("most 00000", 0);
        answers("most 99999", 99999);
        answers("least 00009", 9);
        answers("total 99999", 101L * 99999);
    }

    // Terms IV: each PART but N, each sum, difference, product above 10 to the 6 is that, below -10 to the 6 likewise.
    private static void heldValues() {
        answers("most 1000*1000", 1000000);
        answers("most 1000*1000-1", 999999);
        answers("most 1001*1000", 1000000);
        answers("most 99999*99999", 1000000);
        answers("least (0-1000)*1000", -1000000);
        answers("least (0-1000)*1000+1", -999999);
        answers("least (0-1001)*1000", -1000000);
        answers("most 1000*1000+1", 1000000);
        answers("most 1000*1000+1-1", 999999);
        answers("least 0-1000*1000-1", -1000000);
        answers("least 0-1000*1000-1+1", -999999);
        answers("most 99999*10+9+1", 1000000);
        answers("most 99999*10+10+1", 1000000);
        // SWING of POWER 3 and OFF are far above 10 to the 6 in any STROKE.
        answers("least swing 3", 1000000);
        answers("most swing 3-1", 999999);
        answers("least off", 1000000);
        answers("most off-1", 999999);
        answers("total swing 3", 101000000);
        answers("total 0-swing 3", -101000000);
        answers("least min(0-swing 3-1,0)", -1000000);
        answers("most max(swing 3+1,0)", 1000000);
        EvenOars left = Tapes.boat(EdgesOfBoat.greatest("left"));
        answers("most swing 3", left, -1000000);
        answers("least swing 3+1", left, -999999);
        answers("often swing 0 = 0-12*9801", left, 101);
    }

    // Terms IV: / gives the greatest whole number not above, by 0 it gives 0.
    private static void quotients() {
        answers("most 7/0", 0);
        answers("most 0/0", 0);
        answers("most (0-7)/0", 0);
        answers("most 7/0+5", 5);
        answers("most stroke/(stroke-stroke)", 0);
        answers("most 7/7", 1);
        answers("most 6/7", 0);
        answers("most 8/7", 1);
        answers("most (0-6)/7", -1);
        answers("most (0-7)/7", -1);
        answers("most (0-8)/7", -2);
        answers("most 6/(0-7)", -1);
        answers("most 8/(0-7)", -2);
        answers("most (0-6)/(0-7)", 0);
        answers("most (0-8)/(0-7)", 1);
        answers("most 0/7", 0);
        answers("most 99999*99/1", 1000000);
        answers("least 99999*99/(0-1)", -1000000);
    }

    // Terms IV: 0 of numbers that there are not, of POWERS and of ROWERS.
    private static void nothingBesides() {
        answers("most swing 4", 0);
        answers("most swing 99999", 0);
        answers("most swing(0-1)", 0);
        answers("most swing(1000*1000)", 0);
        answers("most swing(0-1000*1000)", 0);
        answers("most force 2", 0);
        answers("most force 12", 0);
        answers("most force 99999", 0);
        answers("most force(0-1)", 0);
        answers("most force(0-1000*1000)", 0);
        answers("most force 1", 99);
        answers("most force 0", 99);
        answers("most swing 0", 9801 * 90 / 99);
        EvenOars empty = new EvenOars();
        answers("most force 0", empty, 0);
        answers("most swing 0", empty, 0);
        answers("most off", empty, 0);
        answers("least good", empty, 1);
        EvenOars full = Tapes.boat(EdgesOfBoat.greatest("left"));
        answers("most force 11", full, 99);
        answers("most force 12", full, 0);
        EvenOars more = Tapes.boat("rower a strength 7 tires 0;");
        answers("most force 0", more, 7);
    }

    // Terms IV: SIGNS of numbers next to each other; 1 if GOOD, else 0.
    private static void likeAndUnlike() {
        String[] tests = {"4<5", "5<5", "6<5", "4=5", "5=5", "6=5", "4>5", "5>5", "6>5"};
        int[] due = {101, 0, 0, 0, 101, 0, 0, 0, 101};
        for (int k = 0; k < tests.length; k++) {
            answers("often " + tests[k], due[k]);
        }
        answers("most good", 0);
        EvenOars oars = Tapes.boat("seat 1 arm 1;rower a strength 9 tires 1;want 0 is -4;near 2;");
        answers("first good = 1", oars, 30);
        answers("last good = 1", oars, 79);
        answers("total good", oars, 50);
        answers("least off", oars, 0);
        answers("most off", oars, 5);
    }

    // Terms IV: BOTH { or BOTH }, FACT { and FACT }, not its FACT alone.
    private static void joinedFacts() {
        answers("often all or not all", 101);
        answers("often not all or not all", 0);
        answers("often not all or all", 101);
        answers("often all and not all", 0);
        answers("often all and all", 101);
        answers("often not all and all", 0);
        answers("often all or not all and not all", 101);
        answers("often [all or not all] and not all", 0);
        answers("often not [all and not all]", 101);
        answers("often not not all", 101);
        answers("often 5 = 5 and 2 > 1 or 1 > 2", 101);
        answers("often stroke < 3 or stroke > 98", 5);
        answers("often stroke > 3 and stroke < 98", 94);
    }

    // Terms IV: FAULT 4: the 7th of ( [ not swing force that is open at once, at it.
    private static void sevenOpen() {
        answers("most ((((((5))))))", 5);
        faulty("most (((((((5)))))))", 4, 11);
        answers("often [[[[[[all]]]]]]", 101);
        faulty("often [[[[[[[all]]]]]]]", 4, 12);
        answers("often not not not not not not all", 101);
        faulty("often not not not not not not not all", 4, 30);
        // SWING of POWER 9 is 0, that of POWER 0 is 0 at first, then up to 8910.
        answers("most swing swing swing swing swing swing 9", 8910);
        faulty("most swing swing swing swing swing swing swing 9", 4, 41);
        answers("most force force force force force force 9", 99);
        faulty("most force force force force force force force 9", 4, 41);
        answers("most min(min(min(min(min(min(1,2),3),4),5),6),7)", 1);
        faulty("most min(min(min(min(min(min(min(1,2),3),4),5),6),7),8)", 4, 32);
        answers("most max(1,max(2,max(3,max(4,max(5,max(6,7))))))", 7);
        faulty("most max(1,max(2,max(3,max(4,max(5,max(6,max(7,8)))))))", 4, 44);
        answers("often not [not [swing (0) < 1]]", 10);
        faulty("often not [not [swing (force (1)) < 1]]", 4, 23);
        faulty("often [[[[[[not all]]]]]]", 4, 12);
        faulty("often [[[[[[force 1 < 2]]]]]]", 4, 12);
        faulty("often [[[[[[swing 1 < 2]]]]]]", 4, 12);
        faulty("often [[[[[[(1) < 2]]]]]]", 4, 12);
        faulty("often [[[[[[max(1,2) < 2]]]]]]", 4, 15);
        answers("often [[[[[[1 < 2]]]]]]", 101);
        faulty("often [[[[[[min 1", 1, 16);
        faulty("most (((((((", 4, 11);
        faulty("most ((((((", 1, 11);
    }

    // Terms IV: not until its FACT, swing and force until their PART, ( and [ until ) and ] end.
    private static void sixOpenAgain() {
        answers("often not not not not not not all and not not not not not not all", 101);
        answers("often not not not not not not all or [[[[[[all]]]]]]", 101);
        answers("most ((((((1))))))+((((((2))))))*((((((3))))))", 7);
        answers("often ((((((1))))))<((((((2))))))", 101);
        answers("most swing swing swing swing swing swing 9+swing swing swing swing swing swing 9", 17820);
        answers("most force force force force force force 9*((((((1))))))", 99);
        answers("most min(((((1)))),(((((2))))))", 1);
        answers("often not not not not not 1<(2)+(3)", 0);
        faulty("often not not not not not 1<(2)+((3))", 4, 33);
        answers("often [not [not [not all]]]", 0);
        answers("most (swing (swing (force 1)))", 8910);
    }

    // Terms I, IV: FAULT 1 at the text's length, if it ends too soon.
    private static void faultsAtTheEnd() {
        String[] soon = {"first", "first ", "first not", "first [", "first [all", "first 5", "first 5 <", "first all and",
            "first all or \n", "total", "total 1+", "total 1 -", "total 1*", "total 1/", "total (", "total (1", "total min",
            "total min(", "total min(1", "total min(1,", "total min(1,2", "total swing", "total force", "total swing (1"};
        for (String text : soon) {
            faulty(text, 1, text.length());
        }
    }

    // Terms IV: an unknown word at its first byte; what stands behind the question, too.
    private static void faultsOfWords() {
        faulty("all", 1, 0);
        faulty("firs all", 1, 0);
        faulty("firsts all", 1, 0);
        faulty("First all", 1, 0);
        faulty("5 < 6", 1, 0);
        faulty("[all]", 1, 0);
        faulty("(5) < 6", 1, 0);
        faulty(" - 5", 1, 1);
        for (String word : new String[] {"or", "and", "not", "all", "stroke", "off", "good", "swing", "force", "min", "max"}) {
            faulty(word, 1, 0);
            faulty(word + " 5", 1, 0);
            faulty(word + " all", 1, 0);
        }
        faulty("first al", 1, 6);
        faulty("first alls", 1, 6);
        faulty("first ALL", 1, 6);
        faulty("first and", 1, 6);
        faulty("first first", 1, 6);
        faulty("first all first", 1, 10);
        faulty("first all xor all", 1, 10);
        faulty("first all;", 1, 9);
        faulty("first all all", 1, 10);
        faulty("first all not all", 1, 10);
        faulty("first all ]", 1, 10);
        faulty("first all = all", 1, 10);
        faulty("first 1 < 2 < 3", 1, 12);
        faulty("first 1 <= 2", 1, 9);
        faulty("first (1 < 2)", 1, 9);
        faulty("first [1] < 2", 1, 8);
        faulty("first [all)", 1, 10);
        faulty("total all", 1, 6);
        faulty("total not all", 1, 6);
        faulty("total [1]", 1, 6);
        faulty("total 1 < 2", 1, 8);
        faulty("total 1 2", 1, 8);
        faulty("total 1)", 1, 7);
        faulty("total -1", 1, 6);
        faulty("total 1+-1", 1, 8);
        faulty("total ()", 1, 7);
        faulty("total (1]", 1, 8);
        faulty("total min 1", 1, 10);
        faulty("total min(1)", 1, 11);
        faulty("total min(1,2,3)", 1, 13);
        faulty("total min(,2)", 1, 10);
        faulty("total swing + 1", 1, 12);
        faulty("total swing all", 1, 12);
        faulty("total strokes", 1, 6);
        faulty("total \u00e9", 1, 6);
    }

    // Terms I, IV: blanks (10, 32) where one likes; words and numbers side by side need one.
    private static void faultsOfBlanks() {
        answers("\n first\n\n5<6\n ", 0);
        answers("often not[all]and 5<6 or 6<5", 0);
        faulty("often not[all]and 5<6or 6<5", 1, 21);
        answers("most min ( 1 , 2 ) + ( 3 ) * swing ( 9 )", 1);
        answers("most 1+2*3-4/5", 7);
        faulty("first5 < 6", 1, 5);
        faulty("firstall", 1, 0);
        faulty("first 5 < 6and all", 1, 11);
        faulty("total swing1", 1, 11);
        faulty("total force1", 1, 11);
        faulty("total 5stroke", 1, 7);
        for (int sign : new int[] {0, 9, 13, 160, 255}) {
            faulty("first" + (char) sign + "all", 1, 5);
            faulty("first all" + (char) sign, 1, 9);
        }
    }

    // Terms I, IV: a 6th digit at itself.
    private static void faultsOfNumbers() {
        faulty("total 100000", 1, 11);
        faulty("total 000000", 1, 11);
        faulty("total 1234567", 1, 11);
        faulty("first 99999 < 999990", 1, 19);
        faulty("total swing 000001", 1, 17);
        answers("first 99999 < 99999", NONE);
    }

    // Promise 37: a question of 1600 bytes.
    private static void fullTape() {
        answers("most 1" + "+1".repeat(797), 798);
        answers("often 1<2" + " ".repeat(1591), 101);
        answers("often all" + " or all".repeat(227), 101);
        answers("often all" + " and all".repeat(198), 101);
        answers("most 2" + "*2".repeat(797), 1000000);
        answers("most " + "(".repeat(6) + "1" + ")+1".repeat(6), 7);
        answers("total 1" + "-1".repeat(796), -101L * 795);
        faulty("most 1" + "+1".repeat(796) + "+ ", 1, 1600);
    }

    // Promise 37: one question behind the other: at the last STROKE, many, large ones.
    private static void questionsInTurn() {
        EvenOars last = at(9999);
        answers("most swing 0", last, 9801);
        Check.edge(37, "the last STROKE alone, behind a turn", last.turn(1), true);
        answers("most swing 0", last, -9801);
        EvenOars many = new EvenOars();
        for (int k = 0; k < 70; k++) {
            Check.edge(37, "question " + k + " of one object", Tapes.ask(many, "most ((" + k + "+1))*1+(1-1)"), k + 1);
        }
        EvenOars large = new EvenOars();
        for (int k = 0; k < 5; k++) {
            Check.edge(37, "large question " + k + " of one object", Tapes.ask(large, "most 1" + "+1".repeat(790 + k)), 791 + k);
        }
    }

    // Promise 37: the tape goes, all else stays.
    private static void tapeGoesAllStays() {
        EvenOars oars = at(7);
        oars.swap(0, 1);
        String before = Look.at(oars);
        Check.edge(37, "without a FAULT", Tapes.ask(oars, "most 5"), 5);
        Check.edge(37, "the tape goes without a FAULT", oars.feed(0, 0, 0, 0, 0), 20);
        Check.edge(37, "all stays", Look.at(oars).equals(before), true);
        Check.edge(37, "with a FAULT", Tapes.ask(oars, "most"), NOTHING);
        Check.edge(37, "the tape goes with a FAULT", oars.feed(0, 0, 0, 0, 0), 20);
        Tapes.ask(oars, "most 5");
        Check.edge(37, "all stays with a FAULT", Look.at(oars).equals(before), true);
        Tapes.ask(oars, "often all");
        Check.edge(37, "an empty tape behind a question", oars.ask(), NOTHING);
    }
}
