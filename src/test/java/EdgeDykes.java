/** What a dyke does just where the document draws a line: seepage, crests, damage, breaches. */
final class EdgeDykes {
    /** A river of 2000 beside a basin of 100 of area: its level in hundredths is its litres. */
    private static final String DEEP = "setOutside(0, 0, 2000); addBasin(100, 0); ";

    private EdgeDykes() {
    }

    static void run(Check c) {
        seepage(c);
        crests(c);
        atMost(c);
        downToTheCrest(c);
        behindSeepage(c);
        damage(c);
        breaks(c);
        breaches(c);
        brokenOnes(c);
    }

    private static String river(int level, int area, String dyke) {
        return "setOutside(0, 0, " + level + "); addBasin(" + area + ", 0); addDyke(0, 21, " + dyke + "); run(1)";
    }

    private static void seepage(Check c) {
        String sentence = "it seeps d times its seepage, divided by 1000, rounded down, at most as they would level";
        Runs.due(c, sentence, river(100, 100, "999, 999, 9"), "water(0) = 0");
        Runs.due(c, sentence, river(100, 100, "999, 999, 10"), "water(0) = 1; ledger(2) = 1");
        Runs.due(c, sentence, river(199, 100, "999, 999, 99"), "water(0) = 19; dyke(0, 1) = 0");
        Runs.due(c, sentence, river(99900, 100, "999, 999, 0"), "water(0) = 0");
        Runs.due(c, sentence, river(1000, 2, "999, 999, 19"), "water(0) = 19");
        Runs.due(c, sentence, river(1000, 2, "999, 999, 20"), "water(0) = 20");
        Runs.due(c, sentence, river(1000, 2, "999, 999, 21"), "water(0) = 20; run(9); water(0) = 20");
        Runs.due(c, sentence, river(0, 100, "999, 999, 99"), "water(0) = 0; ledger(2) = 0; ledger(3) = 0");
        Runs.due(c, sentence, "addBasin(100, 9); addDyke(21, 0, 999, 999, 99); run(1); ledger(3) = 0; pour(0, 1)",
                "run(1); water(0) = 0; ledger(3) = 1",
                "pour(0, 100); run(1); water(0) = 1; dyke(0, 1) = 28");
        Runs.due(c, sentence, "addBasin(100, 0); addBasin(100, 0); addDyke(0, 1, 999, 999, 99); pour(1, 10)",
                "run(1); water(0) = 0; pour(1, 1); run(1)",
                "water(0) = 1; water(1) = 10; ledger(2) = 0; ledger(3) = 0");
    }

    private static void crests(Check c) {
        String sentence = "if the higher level, behind that, is above its crest, it flows over";
        Runs.due(c, sentence, river(1000, 100, "10, 999, 0"), "water(0) = 0; dyke(0, 1) = 10");
        Runs.due(c, sentence, river(1001, 100, "10, 999, 0"), "water(0) = 500; dyke(0, 1) = 30");
        Runs.due(c, sentence, river(-1, 1, "-500, 999, 0"), "water(0) = 0; dyke(0, 1) = 0; ledger(3) = 0");
        Runs.due(c, sentence, river(99900, 100, "999, 999, 0"), "water(0) = 0; dyke(0, 1) = 999");
        Runs.due(c, sentence, river(99901, 100, "999, 999, 0"), "water(0) = 500; dyke(0, 1) = 1019");
        // the crest of a work that is done counts
        Runs.due(c, sentence, river(1001, 100, "10, 999, 0"), "budget(0, 10); raise(0, 1, 1); run(1)",
                "water(0) = 1000; pour(0, 0); endYear()",
                "setOutside(0, 0, 1100); run(1); water(0) = 1000; setOutside(0, 0, 1101); run(1); water(0) = 1101");
        // a difference of a hundredth, by which a litre goes, or none
        Runs.due(c, sentence, "setOutside(0, 0, 1001); addBasin(100, 10); addDyke(21, 0, 10, 999, 0); run(1)",
                "water(0) = 1; dyke(0, 1) = 20");
        Runs.due(c, sentence, "setOutside(0, 0, 1001); addBasin(100, 10); addDyke(0, 21, 10, 999, 0); run(1)",
                "water(0) = 1; dyke(0, 1) = 20");
        Runs.due(c, sentence, "setOutside(0, 0, 1001); addBasin(99, 10); addDyke(0, 21, 10, 999, 0); run(1)",
                "water(0) = 0; dyke(0, 1) = 0");
        Runs.due(c, sentence, "setOutside(0, 0, 1000); addBasin(100, 10); pour(0, 1); addDyke(0, 21, 10, 999, 0)",
                "run(1); water(0) = 0; dyke(0, 1) = 20");
        Runs.due(c, sentence, "setOutside(0, 0, 1000); addBasin(100, 10); pour(0, 1); addDyke(21, 0, 10, 999, 0)",
                "run(1); water(0) = 0; dyke(0, 1) = 20");
    }

    private static void atMost(Check c) {
        String sentence = "at most 500, at most as they would level";
        Runs.due(c, sentence, river(1000, 49, "9, 999, 0"), "water(0) = 490; dyke(0, 1) = 30");
        Runs.due(c, sentence, river(1000, 50, "9, 999, 0"), "water(0) = 500; dyke(0, 1) = 30");
        Runs.due(c, sentence, river(1000, 51, "9, 999, 0"), "water(0) = 500; dyke(0, 1) = 30");
        String basins = "addBasin(50, 0); addBasin(100, -10); addDyke(0, 1, -500, 999, 0); ";
        // 1500 of difference, times 50 and 100, divided by 150, and by 100
        Runs.due(c, sentence, basins, "pour(0, 250); run(1); water(0) = 0; water(1) = 250; dyke(0, 1) = 35");
        Runs.due(c, sentence, basins, "pour(0, 1000); run(1); water(0) = 500; water(1) = 500; dyke(0, 1) = 50");
        Runs.due(c, sentence, basins, "pour(0, 499); run(1); water(0) = 0; water(1) = 499");
        Runs.due(c, sentence, basins, "pour(0, 501); run(1); water(0) = 1; water(1) = 500");
    }

    private static void downToTheCrest(Check c) {
        String sentence = "from a basin, at most down to the crest: what is above that in its level, times its"
                + " area, divided by 100, rounded down";
        String pond = "addBasin(100, 0); addDyke(0, 21, 10, 999, 0); ";
        Runs.due(c, sentence, pond, "pour(0, 1000); run(1); water(0) = 1000; dyke(0, 1) = 10");
        Runs.due(c, sentence, pond, "pour(0, 1001); run(1); water(0) = 1000; dyke(0, 1) = 30; ledger(3) = 1");
        Runs.due(c, sentence, pond, "pour(0, 1499); run(1); water(0) = 1000; ledger(3) = 499");
        Runs.due(c, sentence, pond, "pour(0, 1500); run(1); water(0) = 1000; ledger(3) = 500");
        Runs.due(c, sentence, pond, "pour(0, 1501); run(1); water(0) = 1001; ledger(3) = 500; run(1); water(0) = 1000");
        // as they would level is less than down to the crest
        Runs.due(c, sentence, pond, "setOutside(0, 0, 1050); pour(0, 1100); run(1); water(0) = 1050; dyke(0, 1) = 20");
        // areas of 3: a level of 1033 gives nothing, one of 1066 a litre
        String puddle = "addBasin(3, 0); addDyke(21, 0, 10, 999, 0); ";
        Runs.due(c, sentence, puddle, "pour(0, 31); run(1); water(0) = 31; dyke(0, 1) = 10");
        Runs.due(c, sentence, puddle, "pour(0, 32); run(1); water(0) = 31; dyke(0, 1) = 30");
        Runs.due(c, sentence, "addBasin(100, 50); addDyke(0, 21, -500, 999, 0); run(1); dyke(0, 1) = 50",
                "pour(0, 3); run(1)",
                "water(0) = 0; ledger(3) = 3; dyke(0, 1) = 120; run(1); dyke(0, 1) = 170");
        Runs.due(c, sentence, "addBasin(100, 0); addBasin(100, 0); addDyke(1, 0, 10, 999, 0); pour(0, 1100)",
                "run(1); water(0) = 1000; water(1) = 100");
    }

    private static void behindSeepage(Check c) {
        String sentence = "if the higher level, behind that, is above its crest, it flows over";
        String pond = "addBasin(100, 0); addDyke(0, 21, 10, 999, 10); ";
        Runs.due(c, sentence, pond, "pour(0, 1010); run(1); water(0) = 1000; dyke(0, 1) = 10; ledger(3) = 10");
        Runs.due(c, sentence, pond, "pour(0, 1011); run(1); water(0) = 1000; dyke(0, 1) = 30; ledger(3) = 11");
        // from outside nothing sinks: the river stays above the crest
        Runs.due(c, sentence, river(1001, 100, "10, 999, 10"), "water(0) = 510; dyke(0, 1) = 30");
        // all goes by seepage, so that nothing flows over, though the river is above the crest
        Runs.due(c, sentence, river(150, 10, "1, 999, 99"), "water(0) = 15; dyke(0, 1) = 20");
        Runs.due(c, sentence, river(150, 1, "1, 999, 99"), "water(0) = 1; dyke(0, 1) = 0");
    }

    private static void damage(Check c) {
        String sentence = "Its damage becomes d (as it was ahead of that) divided by 100 more, rounded down, if d"
                + " is 200 or more";
        Runs.due(c, sentence, river(199, 1, "999, 999, 0"), "dyke(0, 1) = 0; run(9); dyke(0, 1) = 0");
        Runs.due(c, sentence, river(200, 1, "999, 999, 0"), "dyke(0, 1) = 2; run(9); dyke(0, 1) = 20");
        Runs.due(c, sentence, river(299, 1, "999, 999, 0"), "dyke(0, 1) = 2");
        Runs.due(c, sentence, river(300, 1, "999, 999, 0"), "dyke(0, 1) = 3");
        Runs.due(c, sentence, river(-199, 1, "999, 999, 0"), "dyke(0, 1) = 0");
        Runs.due(c, sentence, river(-200, 1, "999, 999, 0"), "dyke(0, 1) = 2");
        Runs.due(c, sentence, river(200, 100, "999, 999, 99"), "water(0) = 19; dyke(0, 1) = 2; run(1); dyke(0, 1) = 2");
        Runs.due(c, sentence, river(200, 100, "1, 999, 0"), "water(0) = 200; dyke(0, 1) = 22; run(1); dyke(0, 1) = 22");
        Runs.due(c, "and 20 more, if something flows over it", river(199, 100, "1, 999, 0"), "water(0) = 199",
                "dyke(0, 1) = 20");
        Runs.due(c, "and 20 more, if something flows over it", river(101, 100, "1, 999, 0"), "water(0) = 101",
                "dyke(0, 1) = 20");
        Runs.due(c, "and 20 more, if something flows over it", river(100, 100, "1, 999, 0"), "water(0) = 0",
                "dyke(0, 1) = 0");
    }

    private static void breaks(Check c) {
        String sentence = "When its damage is its strength or more it breaks";
        Runs.due(c, sentence, river(200, 1, "999, 1, 0"), "dyke(0, 1) = 2; dyke(0, 2) = 1");
        Runs.due(c, sentence, river(200, 1, "999, 2, 0"), "dyke(0, 1) = 2; dyke(0, 2) = 1");
        Runs.due(c, sentence, river(200, 1, "999, 3, 0"), "dyke(0, 1) = 2; dyke(0, 2) = 0; run(1); dyke(0, 1) = 4",
                "dyke(0, 2) = 1");
        Runs.due(c, sentence, river(200, 1, "999, 4, 0"), "dyke(0, 2) = 0; run(1); dyke(0, 1) = 4; dyke(0, 2) = 1");
        Runs.due(c, sentence, river(200, 1, "999, 5, 0"), "run(1); dyke(0, 1) = 4; dyke(0, 2) = 0; run(1)",
                "dyke(0, 1) = 6; dyke(0, 2) = 1");
        Runs.due(c, sentence, river(150, 100, "1, 20, 0"), "dyke(0, 1) = 20; dyke(0, 2) = 1; water(0) = 150");
        Runs.due(c, sentence, river(150, 100, "1, 21, 0"), "dyke(0, 1) = 20; dyke(0, 2) = 0; water(0) = 150");
        Runs.due(c, sentence, river(250, 100, "1, 22, 0"), "dyke(0, 1) = 22; dyke(0, 2) = 1; water(0) = 250");
        Runs.due(c, sentence, river(250, 100, "1, 23, 0"), "dyke(0, 1) = 22; dyke(0, 2) = 0; water(0) = 250");
        Runs.due(c, sentence, river(99900, 1, "999, 999, 0"), "dyke(0, 1) = 999; dyke(0, 2) = 1");
        Runs.due(c, sentence, river(99899, 1, "999, 999, 0"), "dyke(0, 1) = 998; dyke(0, 2) = 0");
        Runs.due(c, sentence, river(0, 1, "999, 1, 99"), "run(9); dyke(0, 1) = 0; dyke(0, 2) = 0");
    }

    private static void breaches(Check c) {
        Runs.due(c, "may break (then nothing flows by that in this hour)", DEEP, "addDyke(0, 21, 999, 20, 0)",
                "run(1); dyke(0, 2) = 1; water(0) = 0; ledger(2) = 0",
                "run(1); water(0) = 50");
        String sentence = "a broken one lets 50 times its breach through, as an open gate does; "
                + "the breach is 1 at first, and 1 more behind each hour's flow, up to 10.";
        Runs.due(c, sentence, "setOutside(0, 0, 99900); addBasin(100, 0); addDyke(0, 21, 999, 1, 0); run(1)",
                "water(0) = 0; dyke(0, 2) = 1",
                "run(1); water(0) = 50; dyke(0, 2) = 2; run(1); water(0) = 150; dyke(0, 2) = 3; run(1)",
                "water(0) = 300; dyke(0, 2) = 4; run(5)",
                "water(0) = 1800; dyke(0, 2) = 9; run(1); water(0) = 2250; dyke(0, 2) = 10; run(1)",
                "water(0) = 2750; dyke(0, 2) = 10",
                "run(1); water(0) = 3250; dyke(0, 2) = 10; run(50); dyke(0, 2) = 10; dyke(0, 1) = 999",
                "water(0) = 28250");
        // as they would level at most: 200 of level fill up behind 50 and 100
        Runs.due(c, sentence, "setOutside(0, 0, 200); addBasin(100, 0); addDyke(0, 21, 999, 2, 0); run(1); run(1)",
                "water(0) = 50; run(1); water(0) = 150",
                "run(1); water(0) = 200; dyke(0, 2) = 4; run(1); water(0) = 200; dyke(0, 2) = 5; run(4)",
                "dyke(0, 2) = 9; run(1); dyke(0, 2) = 10; run(1); dyke(0, 2) = 10");
        // never more than the higher one has
        Runs.due(c, sentence, "setOutside(0, 0, -9999); addBasin(100, 0); addDyke(21, 0, 999, 1, 0); pour(0, 49)",
                "run(1); water(0) = 49; run(1); water(0) = 0",
                "pour(0, 101); run(1); water(0) = 1; ledger(3) = 149");
        // one to the sea does not shut, as a gate would
        Runs.due(c, sentence, "setOutside(3, 0, 0); addBasin(100, 0); addDyke(20, 0, 999, 3, 0); run(1)",
                "dyke(0, 2) = 1; run(3); water(0) = 300; dyke(0, 2) = 4");
    }

    private static void brokenOnes(Check c) {
        Runs.due(c, "broken ones as told, others seep, then flow over, then are damaged",
                // behind the first hour's seepage and flow over there is the breach alone
                DEEP, "addDyke(0, 21, 1, 40, 99); run(1); water(0) = 698; dyke(0, 1) = 40; dyke(0, 2) = 1; run(1)",
                "water(0) = 748; dyke(0, 1) = 40",
                "run(1); water(0) = 848; dyke(0, 1) = 40; endYear(); dyke(0, 1) = 40; dyke(0, 2) = 3");
        Runs.due(c, "4. dykes by rising numbers",
                // what dyke 0 lets in is there for dyke 1
                "setOutside(0, 0, 100); addBasin(100, 0); addBasin(100, -50); addDyke(0, 21, 0, 999, 0)",
                "addDyke(0, 1, 0, 999, 0); run(1)",
                "water(0) = 0; water(1) = 100; dyke(0, 1) = 20; dyke(1, 1) = 71");
        Runs.due(c, "4. dykes by rising numbers",
                "setOutside(0, 0, 100); addBasin(100, 0); addBasin(100, -50); addDyke(0, 1, 0, 999, 0)",
                "addDyke(0, 21, 0, 999, 0); run(1)",
                "water(0) = 100; water(1) = 0; dyke(0, 1) = 50; dyke(1, 1) = 20; run(1); water(1) = 100");
    }
}
