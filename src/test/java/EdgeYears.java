/** Years, records, the next height, shares and refused commands, just where the document draws a line. */
final class EdgeYears {
    private static final String STILL = "setOutside(0, 0, 0); ";

    private EdgeYears() {
    }

    static void run(Check c) {
        sinking(c);
        whatGoesOn(c);
        records(c);
        heightsRoundedUp(c);
        ranks(c);
        keptDry(c);
        byRecords(c);
        evenShares(c);
        rests(c);
        commands(c);
        worth(c);
    }

    private static void sinking(Check c) {
        Runs.due(c, "each ground sinks by what its basin sinks, water and all",
                "addBasin(10, -500); addBasin(10, 500); setLand(0, 20, 100, 0); setLand(1, 0, 100, 0); pour(0, 5)",
                "endYear(); level(0) = -51950; water(0) = 5",
                "level(1) = 50000; setLand(0, 21, 100, 0) = wrong; setLand(0, -1, 100, 0) = wrong; endYear()",
                "level(0) = -53950; setLand(0, 0, 100, 0)",
                "setLand(1, 1, 100, 0); endYear(); level(0) = -53950; level(1) = 49900; run(50); level(1) = 49900",
                "17 x endYear(); level(1) = 48200");
        Runs.due(c, "wear and damage stay",
                "setOutside(0, 0, 2000); addBasin(1, 0); addDyke(0, 21, 999, 19, 0); addPump(21, 0, 1, 0, 1)",
                "budget(0, 5); drive(0, true, 5); run(1)",
                // a litre came by the pump: 1900 of difference
                "pump(0, 2) = 1; dyke(0, 1) = 19; dyke(0, 2) = 1; endYear(); pump(0, 2) = 1; pump(0, 1) = 4",
                "dyke(0, 1) = 19; dyke(0, 2) = 1");
    }

    /** The end of a year leaves alone what the document does not name. */
    private static void whatGoesOn(Check c) {
        Runs.due(c, "Ends the year.", STILL, "addBasin(100, 0); addBasin(100, 0); road(0, 1, true); budget(0, 99)",
                "addDyke(1, 20, 999, 999, 0); addGate(0, 21, 1, 0); addPump(0, 21, 1, 9, 9); setLand(0, 0, 0, 1)",
                "command(0, true, 0); drive(0, true, 5); send(1, 0, 3); pour(0, 50); rain(0, 0, 9, 2); storm(0, 9, 1)",
                // 2 by rain, 1 by the gate, 1 by the pump
                "run(1); water(0) = 50; harm(0) = 2; endYear() = 1; hour() = 1; level(20) = 40; water(0) = 50",
                "isOpen(0) = true; pump(0, 0) = 1; pump(0, 1) = 4; pump(0, 2) = 1; harm(0) = 2; money() = 91",
                "crew(1, 0) = 1; crew(1, 1) = 13; crew(1, 2) = 0; ledger(0) = 50; ledger(1) = 2; ledger(3) = 2",
                "run(1) = 2; water(0) = 50; harm(0) = 4; ledger(1) = 4; ledger(3) = 4; pump(0, 1) = 3; level(20) = 60",
                "road(0, 1, false) = true; storm(0, 1, 1) = 2; rain(0, 99, 1, 1) = 2; setSeed(7) = 1; endYear() = 2",
                "setSeed(8) = 7; storm(0, 1, 1) = 3; rain(0, 99, 1, 1) = 3");
    }

    private static void records(Check c) {
        Runs.due(c, "The greatest level of the sea in the year is noted, and the hour is 1 more.",
                // the hours 0 to 5, then 6 alone, then 7 and so on to the next flood
                "run(6); endYear(); record(0) = 3300; run(1); endYear(); record(1) = 5000; run(11); endYear()",
                "record(2) = 3300; run(1); endYear(); record(3) = 5000");
        Runs.due(c, "The greatest level of the sea is put into the records, and noted anew.",
                // the sea as it is when no hour passes is not noted
                "setOutside(99, 0, 0); setOutside(-99, 0, 0); run(1); setOutside(99, 0, 0); endYear()",
                "record(0) = -9900; endYear(); record(1) = no hour",
                "run(1); setOutside(-99, 0, 0); run(1); endYear(); record(2) = 9900; run(1); endYear()",
                "record(3) = -9900; record(4) = none; record(-1) = none");
        Runs.due(c, "The greatest level of the sea in the year is noted",
                // a storm that is told too late is in sea, but was not there to be noted
                "run(3) = 3; storm(0, 1, 500) = 1; sea(0) = 45000; sea(2) = -1700; endYear(); record(0) = -1700",
                "run(10) = 13; storm(12, 1, 500); setOutside(0, 0, 0); sea(12) = 50000; endYear(); record(1) = 5000");
        Runs.due(c, "Long.MIN_VALUE if no hour passed in it", "endYear(); record(0) = no hour; record(1) = none",
                "run(1); record(0) = no hour; endYear(); record(1) = -5000");
    }

    private static void heightsRoundedUp(Check c) {
        String sentence = "the k-th greatest of these, rounded up to whole ones, and 50, together";
        // surges of 100, 98 and 101 hundredths upon a mean
        String[] storm = {"storm(0, 1, 1); ", "storm(0, 98, 49); ", "storm(0, 50, 26); "};
        int[] surge = {100, 98, 101};
        int[] up = {1, 1, 2};
        int[] means = {-99, -1, 0, 99};
        for (int mean : means) {
            for (int i = 0; i < storm.length; i++) {
                Runs.due(c, sentence, "setOutside(" + mean + ", 0, 0)", storm[i], "run(1); endYear()",
                "record(0) = " + (100 * mean + surge[i]),
                "nextHeight(1, 1) = " + (mean + up[i] + 50));
            }
        }
        // 50000 and 9900, with 20000 of tide: 799 and 50
        Runs.due(c, sentence, "setOutside(99, 400, 0); storm(6, 1, 500); run(7); endYear(); record(0) = 79900",
                "nextHeight(1, 1) = 849");
        // 9900 and 20099 less
        Runs.due(c, sentence, "setOutside(-99, 400, 0); run(1); endYear(); record(0) = -29900",
                "nextHeight(1, 1) = -249");
    }

    private static void ranks(Check c) {
        String three = STILL + "setOutside(3, 0, 0); run(1); endYear(); endYear(); setOutside(5, 0, 0); run(1); "
                + "endYear(); ";
        Runs.due(c, "Throws `IllegalStateException` if there are not so many records, or the one is Long.MIN_VALUE",
                "nextHeight(1, 1) = not now; nextHeight(0, 1) = wrong; nextHeight(1, 0) = wrong",
                "nextHeight(1, 2) = wrong; nextHeight(21, 1) = wrong",
                "nextHeight(20, 20) = not now; nextHeight(20, 21) = wrong; endYear(); nextHeight(1, 1) = not now",
                "nextHeight(2, 1) = not now");
        Runs.due(c, "by the last n records and a rank k", three,
                "nextHeight(1, 1) = 55; nextHeight(2, 1) = 55; nextHeight(2, 2) = not now; nextHeight(3, 1) = 55",
                "nextHeight(3, 2) = 53; nextHeight(3, 3) = not now",
                "nextHeight(4, 1) = not now; nextHeight(3, 4) = wrong; nextHeight(3, 0) = wrong",
                "nextHeight(-1, 1) = wrong; nextHeight(20, 20) = not now",
                "setOutside(4, 0, 0); run(1); nextHeight(4, 1) = not now; endYear(); nextHeight(4, 2) = 54",
                "nextHeight(3, 2) = 54; nextHeight(2, 2) = 54; nextHeight(1, 1) = 54");
        Runs.due(c, "the k-th greatest of these", three,
                // the same ones count each by itself
                "run(1); endYear(); nextHeight(2, 1) = 55; nextHeight(2, 2) = 55; nextHeight(4, 2) = 55",
                "nextHeight(4, 3) = 53; nextHeight(4, 4) = not now");
        Runs.due(c, "`last`: 1 to 20: of how many records",
                STILL, "run(1); 20 x endYear(); nextHeight(19, 1) = not now; nextHeight(20, 1) = 50",
                "nextHeight(20, 2) = not now; nextHeight(21, 1) = wrong");
    }

    private static void keptDry(Check c) {
        Runs.due(c, "the sea's mean and range, together, without records",
                // mean and range, not half of it: 10 and 30 are 40, below which 39 is, but not 40
                "setOutside(10, 30, 0); addBasin(1, 40); addBasin(1, 39); addDyke(0, 20, 999, 999, 0)",
                "addDyke(20, 1, 999, 999, 0)",
                "share(7, 0) = 0; share(7, 1) = 7; setOutside(10, 31, 0); share(3, 0) = 1; share(3, 1) = 2",
                "setOutside(9, 30, 0); share(3, 1) = 0");
        Runs.due(c, "a cost is shared among the basins that a dyke of the sea keeps dry",
                "addBasin(1, 0); share(9, 0) = 0; addBasin(1, 0); addDyke(0, 1, 999, 999, 0)",
                "addDyke(1, 21, 999, 999, 0); addGate(0, 20, 1, 0)",
                "addPump(0, 20, 1, 0, 1); share(9, 0) = 0; share(9, 1) = 0; addDyke(1, 20, 999, 999, 0)",
                "share(9, 0) = 0; share(9, 1) = 9",
                "addDyke(1, 20, 999, 999, 0); addDyke(20, 1, 999, 999, 0); share(9, 1) = 9",
                "addDyke(20, 0, 999, 999, 0); share(9, 1) = 4; share(9, 0) = 5");
        Runs.due(c, "0 if it has none", "addBasin(1, 500); addDyke(0, 20, 999, 999, 0); share(999999, 0) = 0",
                "share(0, 0) = 0; share(1000000, 0) = wrong",
                "share(-1, 0) = wrong; share(-1, 1) = none; share(0, -1) = none; addBasin(1, 99)",
                "addDyke(20, 1, 999, 999, 0); share(999999, 1) = 999999; share(0, 1) = 0");
    }

    private static void byRecords(Check c) {
        String dykes = "addBasin(1, -1); addBasin(1, -2); addDyke(0, 20, 999, 999, 0); addDyke(1, 20, 999, 999, 0); ";
        String sentence = "whose ground is below the greatest level of the records, divided by 100, rounded down";
        // a mean of -2 and surges of 100, 101, 98: -100, -99, -102
        Runs.due(c, sentence, dykes, "setOutside(-2, 0, 0); storm(0, 1, 1); run(1); endYear(); record(0) = -100",
                "share(9, 0) = 0; share(9, 1) = 9");
        Runs.due(c, sentence, dykes, "setOutside(-2, 0, 0); storm(0, 50, 26); run(1); endYear(); record(0) = -99",
                "share(9, 0) = 0; share(9, 1) = 9");
        Runs.due(c, sentence, dykes, "setOutside(-2, 0, 0); storm(0, 98, 49); run(1); endYear(); record(0) = -102",
                "share(9, 0) = 0; share(9, 1) = 0");
        Runs.due(c, sentence, dykes, "setOutside(-1, 0, 0); storm(0, 98, 49); run(1); endYear(); record(0) = -2",
                "share(9, 0) = 0; share(9, 1) = 9");
        Runs.due(c, sentence, dykes, "setOutside(0, 0, 0); run(1); endYear(); record(0) = 0; share(9, 0) = 3",
                "share(9, 1) = 6");
        // 799, the greatest there may be: 800 above -1, 299 above 500
        Runs.due(c, sentence, "addBasin(1, -1); addBasin(1, 500); addDyke(0, 20, 999, 999, 0)",
                "addDyke(1, 20, 999, 999, 0)",
                "setOutside(99, 400, 0); storm(6, 1, 500); run(7); endYear(); record(0) = 79900",
                "share(1099, 0) = 800; share(1099, 1) = 299");
        Runs.due(c, "those of years without an hour do not count", dykes, "setOutside(0, 1, 0); share(5, 0) = 2",
                "endYear(); share(5, 0) = 2; share(5, 1) = 3",
                "setOutside(0, 0, 0); run(1); share(3, 0) = 1; endYear(); setOutside(90, 0, 0); share(3, 0) = 1",
                "share(3, 1) = 2; endYear(); share(3, 1) = 2",
                "run(1); endYear(); share(183, 0) = 91; share(183, 1) = 92; setOutside(-90, 0, 0); run(1)",
                "endYear(); share(183, 0) = 91");
    }

    private static void evenShares(Check c) {
        String two = "setOutside(0, 1, 0); addBasin(1, 0); addBasin(1, 0); addDyke(0, 20, 999, 999, 0); "
                + "addDyke(1, 20, 999, 999, 0); ";
        Runs.due(c, "each gets the cost times that, divided by all together, rounded down", two,
                "share(0, 0) = 0; share(0, 1) = 0; share(10, 0) = 5; share(10, 1) = 5; share(999998, 0) = 499999",
                "share(999998, 1) = 499999");
        Runs.due(c, "what is left goes, 1 each, to those with the greatest rests, of several the lowest", two,
                "share(1, 0) = 1; share(1, 1) = 0; share(11, 0) = 6; share(11, 1) = 5; share(999999, 0) = 500000",
                "share(999999, 1) = 499999");
        Runs.due(c, "by the area of each, times this difference",
                "setOutside(0, 400, 0); addBasin(100, -500); addBasin(1, 399); addDyke(0, 20, 999, 999, 0)",
                "addDyke(1, 20, 999, 999, 0)",
                // 90000 and 1 of 90001
                "share(90001, 0) = 90000; share(90001, 1) = 1; share(90000, 0) = 89999; share(90000, 1) = 1",
                "share(45000, 1) = 0; share(45001, 1) = 1; share(45001, 0) = 45000");
    }

    private static void rests(Check c) {
        String sentence = "what is left goes, 1 each, to those with the greatest rests, of several the lowest";
        String parts = "setOutside(0, 1, 0); addBasin(1, 0); addBasin(2, 0); addBasin(3, 0); "
                + "addDyke(0, 20, 999, 999, 0); addDyke(1, 20, 999, 999, 0); addDyke(2, 20, 999, 999, 0); ";
        // of 10 by 6: 1, 3, 5 with rests of 4, 2, 0
        Runs.due(c, sentence, parts, "share(10, 0) = 2; share(10, 1) = 3; share(10, 2) = 5; share(12, 0) = 2",
                "share(12, 1) = 4; share(12, 2) = 6");
        // of 11: rests of 5, 4, 3 and two left; of 7: 1, 2, 3 and one left; of 8: 2, 4, 0 and one left
        Runs.due(c, sentence, parts, "share(11, 0) = 2; share(11, 1) = 4; share(11, 2) = 5; share(7, 0) = 1",
                "share(7, 1) = 2; share(7, 2) = 4",
                "share(8, 0) = 1; share(8, 1) = 3; share(8, 2) = 4; share(1, 0) = 0; share(1, 1) = 0",
                "share(1, 2) = 1; share(3, 0) = 1; share(3, 1) = 1; share(3, 2) = 1");
        // eight alike: 15 leaves 7, 9 leaves 1
        String eight = "setOutside(0, 1, 0); 8 x addBasin(7, 0); addDyke(0, 20, 9, 9, 0); addDyke(1, 20, 9, 9, 0); "
                + "addDyke(2, 20, 9, 9, 0); addDyke(3, 20, 9, 9, 0);"
                + "addDyke(4, 20, 9, 9, 0); addDyke(5, 20, 9, 9, 0); addDyke(6, 20, 9, 9, 0); "
                        + "addDyke(7, 20, 9, 9, 0); ";
        Runs.due(c, sentence, eight, "share(15, 0) = 2; share(15, 6) = 2; share(15, 7) = 1; share(9, 0) = 2",
                "share(9, 1) = 1; share(9, 7) = 1; share(16, 0) = 2; share(16, 7) = 2",
                "share(7, 6) = 1; share(7, 7) = 0; share(1, 0) = 1; share(1, 1) = 0");
        // a basin that has none takes no rest, though it is the lowest
        Runs.due(c, sentence, "setOutside(0, 1, 0); addBasin(1, 1); addBasin(1, 0); addBasin(1, 0)",
                "addDyke(0, 20, 9, 9, 0); addDyke(1, 20, 9, 9, 0); addDyke(2, 20, 9, 9, 0)",
                "share(3, 0) = 0; share(3, 1) = 2; share(3, 2) = 1");
    }

    private static void commands(Check c) {
        String pond = STILL + "addBasin(100, 0); pour(0, 100); ";
        Runs.due(c, "it is refused with 1, if the rank is less than it needs", pond, "addGate(0, 20, 1, 2)",
                "setOutside(9, 0, 0); setLand(0, 0, 0, 9)",
                "command(0, true, 1) = 1; command(0, false, 1) = 1; command(0, true, 2) = 2",
                "command(0, false, 2) = 0; command(0, true, 3) = 2; isOpen(0) = false");
        String sea = "with 2, if it is to the sea, to be opened, and the sea is higher than its basin";
        Runs.due(c, sea, pond, "addGate(0, 20, 1, 0); setOutside(1, 0, 0); command(0, true, 0) = 0",
                "isOpen(0) = true; command(0, true, 0) = 0");
        Runs.due(c, sea, pond, "addGate(20, 0, 1, 0); setOutside(1, 0, 0); command(0, true, 0) = 0",
                "setOutside(2, 0, 0); command(0, true, 3) = 2; isOpen(0) = true");
        Runs.due(c, sea, STILL, "addBasin(100, 0); pour(0, 99); addGate(0, 20, 1, 0); setOutside(1, 0, 0)",
                "command(0, true, 3) = 2; command(0, false, 0) = 0");
        Runs.due(c, sea, STILL, "addBasin(100, 0); pour(0, 99); addGate(20, 0, 1, 0); setOutside(1, 0, 0)",
                "command(0, true, 3) = 2; pour(0, 1); command(0, true, 3) = 0");
        Runs.due(c, sea, STILL, "addBasin(100, 0); pour(0, 99); addGate(21, 0, 1, 0); setOutside(9, 0, 100)",
                "command(0, true, 0) = 0; isOpen(0) = true");
        // the sea with its surge, in the hour of now
        Runs.due(c, sea, pond, "addGate(0, 20, 1, 0); storm(1, 1, 1); storm(2, 1, 2); command(0, true, 0) = 0",
                "command(0, false, 0) = 0; run(1); command(0, true, 0) = 0",
                "command(0, false, 0) = 0; run(1); command(0, true, 0) = 2; run(1); command(0, true, 0) = 0");
    }

    private static void worth(Check c) {
        String sentence = "with 3, if it is to be opened, the end with the lower level of both is a basin with a"
                + " worth, and the rank is below 3";
        String two = STILL + "addBasin(100, 0); addBasin(100, 0); addGate(0, 1, 1, 0); addGate(1, 0, 1, 0); "
                + "setLand(1, 0, 0, 1); ";
        Runs.due(c, sentence, two, "pour(0, 1); command(0, true, 2) = 3; command(1, true, 2) = 3",
                "command(0, true, 0) = 3; isOpen(0) = false; command(0, true, 3) = 0",
                "command(1, true, 3) = 0; isOpen(1) = true; command(0, true, 2) = 3; isOpen(0) = true",
                "command(0, false, 0) = 0; isOpen(0) = false");
        // the same levels: no end is the lower one
        Runs.due(c, sentence, two, "command(0, true, 0) = 0; command(1, true, 0) = 0; setLand(0, 0, 0, 1)",
                "command(0, true, 0) = 0; pour(1, 1)",
                "command(0, true, 2) = 3; command(1, true, 2) = 3; setLand(0, 0, 0, 0); command(0, true, 0) = 0",
                "command(1, true, 0) = 0");
        Runs.due(c, sentence, two, "pour(1, 1); command(0, true, 0) = 0; command(1, true, 0) = 0");
        // a worth is enough, though the basin stands far below its floor, and a litre would come
        Runs.due(c, sentence, two, "setLand(1, 0, 9999, 1); pour(0, 1); command(0, true, 2) = 3",
                "setLand(1, 0, 9999, 0); command(0, true, 2) = 0");
        Runs.due(c, sentence, two, "setLand(1, 0, 0, 0); pour(0, 1); command(0, true, 0) = 0; command(1, true, 0) = 0");
        String river = STILL + "addBasin(100, 0); setLand(0, 0, 0, 1); addGate(0, 21, 1, 0); addGate(21, 0, 1, 2); ";
        Runs.due(c, sentence, river, "command(0, true, 0) = 0; command(1, true, 2) = 0; setOutside(0, 0, 1)",
                "command(0, true, 2) = 3; command(1, true, 2) = 3; command(1, true, 1) = 1",
                "command(1, true, 3) = 0; setOutside(0, 0, -1); command(0, true, 0) = 0; command(1, true, 2) = 0");
        // one to the sea: 2 is told first, and 3 never, as the lower end is the sea otherwise
        Runs.due(c, sentence, STILL, "addBasin(100, 0); setLand(0, 0, 0, 99); addGate(0, 20, 1, 0)",
                "command(0, true, 0) = 0; setOutside(1, 0, 0); command(0, true, 0) = 2",
                "setOutside(-1, 0, 0); command(0, true, 0) = 0");
    }
}
