/** Levels, the sea, levelling, gates and pumps, just where the document draws a line. */
final class EdgeWaters {
    private static final String STILL = "setOutside(0, 0, 0); ";
    /** A basin whose level in hundredths is its litres, as its area is 100 and its ground 0. */
    private static final String POND = STILL + "addBasin(100, 0) = 0";

    private EdgeWaters() {
    }

    static void run(Check c) {
        levels(c);
        tides(c);
        surges(c);
        levelTwoBasins(c);
        levelOutside(c);
        gates(c);
        gatesToTheSea(c);
        pumps(c);
        pumpHeads(c);
        lastLitre(c);
        rains(c);
        forecasts(c);
    }

    private static void levels(Check c) {
        Runs.due(c, "The level of a basin is 100 times its ground, and 100 times its water, divided by its area,"
                + " rounded down, together.",
                "addBasin(3, -1); level(0) = -100; pour(0, 0) = 0; level(0) = -100; pour(0, 1) = 1",
                "level(0) = -67; pour(0, 1) = 2",
                "level(0) = -34; pour(0, 1) = 3; level(0) = 0; addBasin(100, 500); level(1) = 50000",
                "pour(1, 1) = 1; level(1) = 50001",
                "addBasin(1, -500); level(2) = -50000; pour(2, 1000000) = 1000000; level(2) = 99950000",
                "pour(2, 1000001) = wrong",
                "pour(2, -1) = wrong; water(2) = 1000000; ledger(0) = 1000004");
        Runs.due(c, "The level of the river is told, 0 at first.",
                "level(21) = 0; setOutside(0, 0, 99999); level(21) = 99999; setOutside(0, 0, -9999); level(21) = -9999",
                "setOutside(0, 0, 100000) = wrong; setOutside(0, 0, -10000) = wrong; level(21) = -9999");
        Runs.due(c, "their water does not end",
                "setOutside(0, 0, 99999); addBasin(100, -500); addBasin(100, -500)",
                "addPump(21, 0, 9999, 999, 999); addPump(20, 1, 9999, 999, 999)",
                "budget(0, 198); drive(0, true, 99); drive(1, true, 99); run(12); water(0) = 119988",
                "water(1) = 119988; ledger(2) = 239976",
                "level(21) = 99999; level(20) = 0; run(12); water(0) = 239976; level(21) = 99999");
        Runs.due(c, "that does not sink and has no worth; its floor is 100 above the ground",
                POND, "addBasin(100, 0); addDyke(1, 20, 999, 999, 0); road(0, 1, true); pour(1, 200)",
                "send(0, 0, 0); run(1)",
                "crew(0, 0) = 0; harm(1) = 0; endYear(); level(1) = 200; addGate(1, 21, 1, 0); setOutside(0, 0, 300)",
                "command(0, true, 0) = 0");
        Runs.due(c, "its floor is 100 above the ground",
                POND, "addBasin(100, 0); addDyke(1, 20, 999, 999, 0); road(0, 1, true); pour(1, 199)",
                "send(0, 0, 0); run(1); crew(0, 0) = 1");
    }

    private static void tides(Check c) {
        Runs.due(c, "100 times the mean, 0 at first, the tide and the surge, together",
                "sea(3) = 0; setOutside(99, 0, 0); sea(3) = 9900; sea(0) = 9900; setOutside(-99, 0, 0); sea(3) = -9900",
                "setOutside(100, 0, 0) = wrong; setOutside(-100, 0, 0) = wrong; sea(0) = -9900; storm(0, 1, 500)",
                "sea(0) = 40100");
        Runs.due(c, "the tide is the range, 100 at first, times p when p is at most 6, otherwise times 12 less p,"
                + " divided by 6, rounded down, less half of the range, rounded down",
                "sea(0) = -5000; sea(1) = -3400; sea(5) = 3300; sea(6) = 5000; sea(7) = 3300; sea(11) = -3400",
                "sea(12) = -5000; sea(13) = -3400",
                "setOutside(0, 400, 0); sea(0) = -20000; sea(5) = 13300; sea(6) = 20000; sea(7) = 13300",
                "sea(11) = -13400; sea(9999) = 0",
                "setOutside(0, 401, 0) = wrong; setOutside(0, -1, 0) = wrong; sea(6) = 20000",
                "setOutside(0, 399, 0); sea(0) = -19900; sea(1) = -13300; sea(6) = 20000; sea(11) = -13300",
                "setOutside(0, 1, 0); sea(0) = 0; sea(5) = 0; sea(6) = 100; sea(7) = 0; sea(9998) = 0; sea(9990) = 100",
                "setOutside(0, 2, 0); sea(0) = -100; sea(2) = -100; sea(3) = 0; sea(6) = 100; sea(9) = 0",
                "sea(10) = -100",
                "setOutside(0, 0, 0); sea(0) = 0; sea(6) = 0; sea(-1) = wrong; sea(10000) = wrong");
    }

    private static void surges(Check c) {
        Runs.due(c, "the surge is the greatest one of all storms that go then",
                STILL, "sea(10) = 0; storm(10, 3, 1) = 1; sea(9) = 0; sea(10) = 50; sea(11) = 100; sea(12) = 50",
                "sea(13) = 0",
                "storm(10, 3, 1) = 2; sea(11) = 100; storm(9, 1, 3) = 3; sea(9) = 300; sea(10) = 50",
                "storm(13, 1, 4) = 4; sea(12) = 50",
                "sea(13) = 400; storm(11, 1, 1) = 5; sea(11) = 100; storm(12, 1, 2) = 6; sea(12) = 200");
        Runs.due(c, "times the lesser of these hours and 1, together, and of the hours that are left, this one"
                + " included, times 2, divided by its length and 1, together, rounded down",
                STILL, "storm(0, 99, 500); sea(0) = 1000; sea(1) = 2000; sea(48) = 49000; sea(49) = 50000",
                "sea(50) = 49000; sea(98) = 1000; sea(99) = 0",
                "storm(200, 1, 500); sea(199) = 0; sea(200) = 50000; sea(201) = 0; storm(300, 2, 1)",
                "sea(300) = 66; sea(301) = 66; sea(302) = 0",
                // 100 times 1, 2, 2, 1, times 2, divided by 5
                "storm(400, 4, 1); sea(399) = 0; sea(400) = 40; sea(401) = 80; sea(402) = 80; sea(403) = 40",
                "sea(404) = 0",
                "storm(500, 98, 1); sea(500) = 2; sea(548) = 98; sea(549) = 98; sea(597) = 2; sea(598) = 0");
    }

    private static void levelTwoBasins(Check c) {
        Runs.due(c, "water goes from the end with the higher level to the other one",
                // the same level: nothing goes, by a gate, a dyke, or over one
                STILL, "addBasin(10, 1); addBasin(20, 0); pour(1, 20); addGate(0, 1, 9, 0)",
                "command(0, true, 0) = 0; addDyke(0, 1, -5, 1, 99); run(3)",
                "water(0) = 0; water(1) = 20; dyke(0, 1) = 0; dyke(0, 2) = 0; pour(0, 30); run(1); isOpen(0) = true",
                // 9 by the gate, then 11 by seepage, to 200 each
                "water(0) = 10; water(1) = 40; dyke(0, 1) = 0");
        Runs.due(c, "of two basins, the difference of the levels, times both areas, divided by both together, and"
                + " by 100, rounded down",
                POND, "addBasin(100, 0); addGate(0, 1, 9999, 0); command(0, true, 0); pour(0, 1); run(1)",
                "water(1) = 0; pour(0, 1); run(1)",
                "water(0) = 1; water(1) = 1; pour(1, 3); run(1); water(0) = 2; water(1) = 3; run(1); water(0) = 2");
        Runs.due(c, "of two basins, the difference of the levels, times both areas, divided by both together, and"
                + " by 100, rounded down",
                // 99 and 1 of area: 200 of difference, times 99, divided by 100, and by 100
                STILL, "addBasin(99, 0); addBasin(1, 0); addGate(1, 0, 9999, 0); command(0, true, 0); pour(1, 1)",
                "run(1); water(0) = 0",
                "pour(1, 1); run(1); water(0) = 1; water(1) = 1; run(1); water(0) = 1");
        Runs.due(c, "never more than the higher one has, if that is a basin",
                STILL, "addBasin(50, 9); addBasin(50, 0); addGate(0, 1, 9999, 0); command(0, true, 0); run(1)",
                "water(1) = 0",
                "pour(0, 1); run(1); water(0) = 0; water(1) = 1; pour(0, 225); run(1); water(0) = 0; water(1) = 226",
                // 900 - 452 + 450 of difference, times 50, divided by 2, and by 100
                "pour(0, 225); run(1); water(0) = 1; water(1) = 450");
    }

    private static void levelOutside(Check c) {
        Runs.due(c, "of a basin and outside the difference times the area of the basin, divided by 100, rounded down",
                "addBasin(1, 0); addGate(0, 21, 9999, 0); command(0, true, 0); setOutside(0, 0, 99); run(1)",
                "water(0) = 0; setOutside(0, 0, 100)",
                "run(1); water(0) = 1; setOutside(0, 0, 299); run(1); water(0) = 2; setOutside(0, 0, 200); run(1)",
                "water(0) = 2",
                "setOutside(0, 0, 101); run(1); water(0) = 2; setOutside(0, 0, 100); run(1); water(0) = 1",
                "ledger(2) = 2; ledger(3) = 1");
        Runs.due(c, "of a basin and outside the difference times the area of the basin, divided by 100, rounded down",
                POND, "addGate(21, 0, 9999, 0); command(0, true, 0); setOutside(0, 0, 1); run(1); water(0) = 1",
                "run(1); water(0) = 1",
                "setOutside(0, 0, 9000); run(1); water(0) = 9000; setOutside(0, 0, 0); run(1); water(0) = 0",
                "ledger(2) = 9000; ledger(3) = 9000");
        Runs.due(c, "of a basin and outside the difference times the area of the basin, divided by 100, rounded down",
                // a level of 33 gives nothing, one of 66 a litre
                STILL, "addBasin(3, 0); addGate(0, 20, 9, 0); command(0, true, 0); pour(0, 1); run(1)",
                "water(0) = 1; pour(0, 1); run(1); water(0) = 1",
                "isOpen(0) = true; ledger(3) = 1");
        Runs.due(c, "never more than the higher one has, if that is a basin",
                "addBasin(100, 50); setOutside(0, 0, -9999); addGate(0, 21, 9999, 0); command(0, true, 0); run(1)",
                "ledger(3) = 0",
                "pour(0, 1); run(1); water(0) = 0; ledger(3) = 1; pour(0, 9999); run(1); water(0) = 0",
                "pour(0, 10000); run(1); water(0) = 1");
    }

    private static void gates(Check c) {
        Runs.due(c, "A gate is open or not, at first not, and lets an amount through in an hour.",
                // they would level by 10
                "setOutside(0, 0, 1000); addBasin(1, 0); addGate(0, 21, 9, 0); isOpen(0) = false; run(1)",
                "water(0) = 0; command(0, true, 0) = 0",
                "isOpen(0) = true; run(1); water(0) = 9; run(1); water(0) = 10; run(1); water(0) = 10",
                "command(0, false, 0) = 0",
                "setOutside(0, 0, 0); isOpen(0) = false; run(1); water(0) = 10; command(0, true, 0) = 0; run(1)",
                "water(0) = 1");
        Runs.due(c, "A gate is open or not, at first not, and lets an amount through in an hour.",
                "setOutside(0, 0, 1000); addBasin(1, 0); addGate(0, 21, 10, 0); command(0, true, 0) = 0; run(1)",
                "water(0) = 10",
                "setOutside(0, 0, 2100); addGate(0, 21, 1, 0); command(0, false, 0); command(1, true, 0); run(1)",
                "water(0) = 11; run(9); water(0) = 20",
                "run(1); water(0) = 21; run(1); water(0) = 21");
        Runs.due(c, "A gate needs a rank, 0 to 3, 0 at first.",
                STILL, "addBasin(1, 0); addGate(0, 21, 1, 0); addGate(0, 21, 1, 1); addGate(0, 21, 1, 2)",
                "addGate(0, 21, 1, 3)",
                "command(0, true, 0) = 0; command(1, true, 0) = 1; command(1, true, 1) = 0",
                "command(2, true, 1) = 1; command(2, true, 2) = 0",
                "command(3, true, 2) = 1; isOpen(3) = false; command(3, true, 3) = 0; command(3, false, 2) = 1",
                "isOpen(3) = true",
                "command(3, false, 3) = 0; command(3, false, 3) = 0; command(2, false, 1) = 1",
                "command(1, false, 0) = 1; command(0, false, 0) = 0",
                "command(0, true, -1) = wrong; command(0, true, 4) = wrong; command(4, true, 4) = none",
                "command(-1, true, 0) = none");
    }

    private static void gatesToTheSea(Check c) {
        String sentence = "One to the sea that is open shuts by itself, when its turn comes, ahead of what flows"
                + " through it,"
                + " if the sea is higher than its basin then.";
        String tide = "addGate(0, 20, 9999, 0); addGate(20, 0, 9999, 0); command(0, true, 3) = 0; "
                + "command(1, true, 3) = 0; setOutside(1, 0, 0); run(1)";
        Runs.due(c, sentence, POND, "pour(0, 100)", tide, "isOpen(0) = true; isOpen(1) = true; water(0) = 100");
        Runs.due(c, sentence, POND, "pour(0, 99)", tide, "isOpen(0) = false; isOpen(1) = false; water(0) = 99",
                "ledger(2) = 0",
                "setOutside(0, 0, 0); run(1); isOpen(0) = false; water(0) = 99; command(0, true, 0) = 0; run(1)",
                "water(0) = 0");
        Runs.due(c, sentence, POND, "pour(0, 101)", tide, "isOpen(0) = true; isOpen(1) = true; water(0) = 100",
                "ledger(3) = 1");
        String rises = "setOutside(1, 0, 300); run(1)";
        Runs.due(c, sentence, POND, "pour(0, 50); addGate(0, 21, 9999, 0); addGate(0, 20, 9999, 0)",
                "command(0, true, 0); command(1, true, 0)",
                rises, "isOpen(1) = true; water(0) = 100; ledger(2) = 250; ledger(3) = 200");
        Runs.due(c, sentence, POND, "pour(0, 50); addGate(0, 20, 9999, 0); addGate(0, 21, 9999, 0)",
                "command(0, true, 0); command(1, true, 0)",
                rises, "isOpen(0) = false; isOpen(1) = true; water(0) = 300; ledger(2) = 250; ledger(3) = 0");
        // rain comes first: it lifts the basin to the sea just in time
        Runs.due(c, sentence, POND, "pour(0, 50); rain(0, 0, 1, 50)", tide, "isOpen(0) = true; water(0) = 100");
        Runs.due(c, sentence, POND, "pour(0, 50); rain(0, 0, 1, 49)", tide, "isOpen(0) = false; water(0) = 99");
    }

    private static void pumps(Check c) {
        String pond = STILL + "addBasin(100, 10); budget(0, 99); ";
        Runs.due(c, "A pump takes an amount in an hour from its first end to its second one, less if a basin has less",
                pond, "addPump(0, 21, 5, 0, 99); drive(0, true, 9); pour(0, 4); run(1); water(0) = 0",
                "ledger(3) = 4; pump(0, 1) = 8; pump(0, 2) = 1",
                "pour(0, 5); run(1); water(0) = 0; ledger(3) = 9; pour(0, 6); run(1); water(0) = 1",
                "ledger(3) = 14; pump(0, 1) = 6; pump(0, 2) = 3");
        Runs.due(c, "there is some water",
                pond, "addPump(0, 21, 5, 0, 99); drive(0, true, 9); run(1); pump(0, 1) = 9; pump(0, 2) = 0",
                "pour(0, 1); run(1); water(0) = 0",
                "pump(0, 1) = 8; pump(0, 2) = 1; run(5); pump(0, 1) = 8; pump(0, 2) = 1");
        Runs.due(c, "if it is on",
                pond, "addPump(0, 21, 5, 0, 99); pump(0, 0) = 0; drive(0, false, 9) = 9; pour(0, 50); run(1)",
                "water(0) = 50; pump(0, 1) = 9",
                "drive(0, true, 0) = 9; pump(0, 0) = 1; run(1); water(0) = 45; drive(0, false, 0) = 8; run(1)",
                "water(0) = 45; pump(0, 2) = 1");
        Runs.due(c, "has fuel",
                pond, "addPump(0, 21, 5, 0, 99); drive(0, true, 0) = 0; pour(0, 50); run(1); water(0) = 50",
                "drive(0, true, 1) = 1; run(1); water(0) = 45",
                "pump(0, 1) = 0; run(2); water(0) = 45; pump(0, 1) = 0; pump(0, 2) = 1; pump(0, 0) = 1",
                "drive(0, true, 2) = 2; run(9); water(0) = 35");
        Runs.due(c, "`fuel`: 0 to 99: how much more, 1 of the money each",
                "budget(0, 9999); addBasin(1, 0); addPump(0, 21, 5, 0, 99); 10 x drive(0, true, 99)",
                "pump(0, 1) = 990; drive(0, true, 99) = 1089; money() = 8910");
        Runs.due(c, "it is worn out when its wear is its limit",
                pond, "addPump(0, 21, 5, 0, 1); addPump(0, 21, 3, 0, 2); drive(0, true, 9); drive(1, true, 9)",
                "pour(0, 50); run(1); water(0) = 42",
                "pump(0, 2) = 1; pump(1, 2) = 1; run(1); water(0) = 39; pump(0, 2) = 1; pump(0, 1) = 8",
                "pump(1, 2) = 2; pump(1, 1) = 7",
                "run(3); water(0) = 39; pump(0, 0) = 1; mend(1) = 2; pump(1, 2) = 0; run(1); water(0) = 36",
                "endYear(); pump(0, 2) = 1; pump(1, 2) = 1");
    }

    private static void pumpHeads(Check c) {
        String sentence = "the second level is above the first one by its head, in hundreds, at most";
        String two = "addBasin(100, 0); addBasin(100, 0); budget(0, 99)";
        Runs.due(c, sentence, two, "pour(0, 10); addPump(0, 1, 1, 1, 9); drive(0, true, 9); pour(1, 111); run(1)",
                "water(0) = 10; pump(0, 1) = 9; pump(0, 2) = 0",
                "pour(0, 1); run(1); water(0) = 10; water(1) = 112; pump(0, 1) = 8; pump(0, 2) = 1; run(1)",
                "water(0) = 10");
        Runs.due(c, sentence, two, "pour(0, 10); addPump(0, 1, 1, 0, 9); drive(0, true, 9); pour(1, 11); run(1)",
                "water(0) = 10; pour(0, 1); run(1)",
                "water(0) = 10; water(1) = 12; pour(0, 5); run(1); water(0) = 14");
        Runs.due(c, sentence, two, "pour(0, 1); addPump(0, 21, 1, 999, 9); drive(0, true, 9); setOutside(0, 0, 99902)",
                "run(1); ledger(3) = 0",
                "setOutside(0, 0, 99901); run(1); ledger(3) = 1; water(0) = 0");
        Runs.due(c, sentence, two, "addPump(21, 0, 1, 3, 9); drive(0, true, 9); setOutside(0, 0, -301); run(1)",
                "ledger(2) = 0; pump(0, 1) = 9",
                "setOutside(0, 0, -300); run(1); ledger(2) = 1; water(0) = 1; pump(0, 1) = 8; run(1); ledger(2) = 1");
        // the levels are those of its turn: pump 0 lowers the second end of pump 1, or not yet
        Runs.due(c, sentence, two, "pour(0, 10); pour(1, 12); addPump(1, 21, 2, 0, 9); addPump(0, 1, 1, 0, 9)",
                "drive(0, true, 9); drive(1, true, 9)",
                "setOutside(0, 0, 0); run(1); ledger(3) = 2; water(0) = 9; water(1) = 11");
        Runs.due(c, sentence, two, "pour(0, 10); pour(1, 12); addPump(0, 1, 1, 0, 9); addPump(1, 21, 2, 0, 9)",
                "drive(0, true, 9); drive(1, true, 9)",
                "setOutside(0, 0, 0); run(1); ledger(3) = 2; water(0) = 10; water(1) = 10");
    }

    private static void lastLitre(Check c) {
        c.about("\"Water is kept to the last litre.\"");
        Polderwardens x = Lands.crowded();
        for (int day = 0; day < 40; day++) {
            x.pour(day % 8, 1 + 37 * day);
            x.command(day % 8, true, 3);
            x.run(1 + day % 5);
            long water = 0;
            for (int i = 0; i < 8; i++) {
                water += x.water(i);
            }
            c.due("water on day " + day, x.ledger(0) + x.ledger(1) + x.ledger(2) - x.ledger(3), water);
        }
    }

    private static void rains(Check c) {
        Runs.due(c, "each rain that goes brings its amount to its basin",
                POND, "addBasin(1, 0); rain(0, 2, 1, 7) = 1; rain(1, 1, 2, 9999) = 2; run(1); ledger(1) = 0",
                "run(1); water(0) = 0; water(1) = 9999",
                "run(1); water(0) = 7; water(1) = 19998; run(1); water(0) = 7; water(1) = 19998",
                "rain(0, 0, 99, 1) = 3; run(50); run(45); water(0) = 102",
                "run(1); water(0) = 102; rain(0, 0, 100, 1) = wrong; rain(0, 0, 0, 1) = wrong; ledger(1) = 20100");
        Runs.due(c, "each rain that goes brings its amount to its basin",
                // two rains on one basin, and one told in its last hour
                POND, "rain(0, 0, 1, 1); rain(0, 0, 1, 9999); run(1); water(0) = 10000; rain(0, 0, 2, 5) = 3",
                "run(1); water(0) = 10005; run(1)",
                "water(0) = 10005; rain(0, 0, 3, 5) = 4; run(1); water(0) = 10005; rain(0, 0, 1, 0) = wrong",
                "rain(0, 0, 1, 10000) = wrong");
    }

    private static void forecasts(Check c) {
        // 75 times 860, 1009 and 28 are 65537; with a seed of 27 one less, by 3 rests 1
        Runs.due(c, "x is the remainder by 65537 of 75 times the hour of now, 1009 times the hours ahead and the"
                + " seed, together",
                STILL, "17 x run(50); run(10) = 860; setSeed(28) = 1; forecast(1) = -10; setSeed(27) = 28",
                "forecast(1) = 0; setSeed(29) = 27; forecast(1) = 0",
                "setSeed(30) = 29; forecast(1) = 10; setSeed(31) = 30; forecast(1) = -10");
        // 1009 and 1, 2, 3: by 3 they rest 2, 0, 1; and 0 and 9999, the edges of seeds
        Runs.due(c, "the error is the remainder of x by 2 times the hours ahead and 1, together, less these hours,"
                + " all this times 10",
                STILL, "forecast(1) = 10; setSeed(2) = 1; forecast(1) = -10; setSeed(3) = 2; forecast(1) = 0",
                "setSeed(0) = 3; forecast(1) = 0",
                "setSeed(9999) = 0; forecast(1) = 0; setSeed(10000) = wrong; setSeed(-1) = wrong",
                "forecast(0) = wrong; forecast(49) = wrong",
                // 48432 by 97 rests 29
                "setSeed(0) = 9999; forecast(48) = -190; setSeed(67) = 0; forecast(48) = 480; setSeed(68) = 67",
                "forecast(48) = -480");
        Runs.due(c, "Forecasts: the level of the sea some hours ahead, by storms that are told by now",
                STILL, "setSeed(0) = 1; forecast(1) = 0; storm(1, 1, 5); forecast(1) = 500; forecast(2) = 10",
                "run(1); level(20) = 500",
                // 75 and 1009 by 3 rest 1
                "forecast(1) = 0; storm(2, 1, 3); forecast(1) = 300");
    }
}
