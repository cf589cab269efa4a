/** How many there may be: basins, ways, storms, rains, works, years, hours, money. */
final class EdgeCounts {
    private static final String STILL = "setOutside(0, 0, 0); ";

    private EdgeCounts() {
    }

    static void run(Check c) {
        noBasin(c);
        things(c);
        eighthOnes(c);
        spells(c);
        works(c);
        years(c);
        hours(c);
        money(c);
        ends(c);
        roads(c);
        calls(c);
    }

    private static void noBasin(Check c) {
        Runs.due(c, "No basins, no storms, no money; the hour 0 of the year 0.",
                "hour() = 0; money() = 0; level(0) = none; water(0) = none; harm(0) = none; share(0, 0) = none",
                "ledger(0) = 0; ledger(1) = 0; ledger(2) = 0; ledger(3) = 0; record(0) = none",
                "isOpen(0) = none; pump(0, 0) = none; dyke(0, 0) = none; nextHeight(1, 1) = not now",
                "sea(0) = -5000; sea(6) = 5000; storm(0, 1, 1) = 1; setSeed(1) = 1; run(1) = 1; endYear() = 1");
        Runs.due(c, "A method that takes a basin, a gate, a pump, a dyke or a crew throws"
                + " IndexOutOfBoundsException if there is no such one",
                "setLand(0, 0, 0, 0) = none; pour(0, 0) = none; road(0, 0, true) = none; rain(0, 0, 1, 1) = none",
                "addGate(0, 20, 1, 0) = none; addPump(20, 0, 1, 0, 1) = none; addDyke(0, 0, 0, 1, 0) = none",
                "command(0, false, 0) = none; drive(0, false, 0) = none; mend(0) = none; send(0, 0, 0) = none",
                "raise(0, 1, 1) = none; send(3, -1, 0) = none; send(-1, -1, 0) = none; crew(3, 0) = none",
                "crew(2, 0) = 0; send(2, -1, 0) = 10; run(3) = 3; endYear() = 1; digest() = 6820; digestAnew() = 6820",
                // a basin is no gate, no pump, no dyke
                "addBasin(1, 0) = 0; command(0, false, 0) = none; mend(0) = none; drive(0, true, 0) = none",
                "raise(0, 1, 1) = none; send(0, 0, 0) = none");
    }

    private static void things(Check c) {
        Runs.due(c, "Basins are numbered from 0, at most 8",
                "addBasin(1, 0) = 0; addBasin(1, 1) = 1; addBasin(1, 2) = 2; addBasin(1, 3) = 3; addBasin(1, 4) = 4",
                "addBasin(1, 5) = 5; addBasin(1, 6) = 6; level(7) = none; addBasin(100, 7) = 7; level(7) = 700",
                "addBasin(1, 8) = not now; addBasin(0, 8) = wrong; addBasin(1, 501) = wrong; level(8) = none",
                "pour(7, 9) = 9; pour(8, 9) = none; water(7) = 9; water(0) = 0; level(0) = 0",
                "addGate(7, 20, 1, 0) = 0; addGate(8, 20, 1, 0) = none; road(7, 0, true) = false",
                "road(7, 8, true) = none");
        Runs.due(c, "There are gates and pumps and dykes, each numbered from 0 by themselves, at most 8 each.",
                "addBasin(1, 0); addGate(0, 20, 1, 0) = 0; addPump(0, 20, 1, 0, 1) = 0; addDyke(0, 20, 0, 1, 0) = 0",
                "6 x addGate(0, 20, 1, 0); isOpen(7) = none; addGate(0, 21, 1, 3) = 7; isOpen(7) = false",
                "addGate(0, 20, 1, 0) = not now; isOpen(8) = none; addPump(0, 20, 1, 0, 1) = 1",
                "5 x addPump(0, 20, 1, 0, 1); pump(7, 0) = none; addPump(0, 21, 1, 0, 1) = 7; pump(7, 0) = 0",
                "addPump(0, 20, 1, 0, 1) = not now; pump(8, 0) = none; addDyke(0, 20, 0, 1, 0) = 1",
                "5 x addDyke(0, 20, 0, 1, 0); dyke(7, 0) = none; addDyke(0, 21, 77, 1, 0) = 7; dyke(7, 0) = 77",
                "addDyke(0, 20, 0, 1, 0) = not now; dyke(8, 0) = none",
                // which exception comes first, when there are 8
                "addGate(0, 20, 0, 0) = wrong; addGate(0, 1, 0, 0) = none; addPump(0, 20, 1, 0, 0) = wrong",
                "addPump(1, 1, 1, 0, 0) = none; addDyke(0, 0, 0, 1, 0) = wrong; addDyke(0, 2, 0, 0, 0) = none",
                // the last one of each works as the others do
                "command(7, true, 2) = 1; command(7, true, 3) = 0; drive(7, true, 0) = 0; send(0, 7, 0) = 10",
                "send(0, 8, 0) = none; command(8, true, 3) = none; drive(8, true, 0) = none; mend(8) = none",
                "raise(8, 1, 1) = none");
    }

    private static void eighthOnes(Check c) {
        String eight = STILL + "8 x addBasin(100, 0); ";
        Runs.due(c, "Basins are numbered from 0, at most 8", eight,
                "setLand(7, 3, 0, 5); pour(7, 60); run(1); harm(7) = 10; harm(6) = 0; endYear(); level(7) = -240",
                "level(6) = 0; water(7) = 60",
                "rain(7, 1, 1, 40); run(1); water(7) = 100; harm(7) = 25; ledger(1) = 40");
        Runs.due(c, "There are gates and pumps and dykes, each numbered from 0 by themselves, at most 8 each.", eight,
                "pour(7, 560); 7 x addGate(0, 1, 1, 0); addGate(7, 21, 10, 0) = 7; 7 x addPump(0, 1, 1, 0, 1)",
                "addPump(7, 21, 20, 0, 9) = 7",
                "7 x addDyke(0, 1, 999, 999, 0); addDyke(7, 21, -5, 999, 0) = 7; budget(0, 9)",
                "command(7, true, 0) = 0; drive(7, true, 9) = 9",
                // 10 by the gate, 20 by the pump, and 500 over the dyke
                "run(1); water(7) = 30; ledger(3) = 530; pump(7, 1) = 8; pump(7, 2) = 1; dyke(7, 1) = 25",
                "command(7, false, 0) = 0; drive(7, false, 0) = 8",
                "send(0, 7, 0); road(0, 7, true); run(1); crew(0, 0) = 7; water(7) = 0; dyke(7, 1) = 45; run(1)",
                "dyke(7, 1) = 30; crew(0, 1) = 9; budget(0, 10); raise(7, 1, 1); endYear(); dyke(7, 0) = -4",
                "share(9, 7) = 0",
                "mend(7) = not now; budget(0, 20); mend(7) = 1; pump(7, 2) = 0");
    }

    private static void spells(Check c) {
        Runs.due(c, "Throws `IllegalStateException` if 12 were told (storms)",
                STILL, "storm(0, 1, 1) = 1; 10 x storm(0, 1, 2); storm(5, 1, 9) = 12; sea(5) = 900; sea(0) = 200",
                "storm(5, 1, 50) = not now; storm(0, 0, 1) = wrong; storm(10000, 1, 1) = wrong; sea(5) = 900",
                "run(50) = 50; endYear() = 1; storm(60, 1, 1) = not now; addBasin(1, 0) = 0; rain(0, 60, 1, 1) = 1");
        Runs.due(c, "Throws `IllegalStateException` if 12 were told (rains)",
                STILL, "addBasin(1, 0); addBasin(1, 0); rain(0, 0, 1, 1) = 1; 10 x rain(0, 0, 1, 2)",
                "rain(1, 0, 1, 5) = 12",
                "rain(1, 0, 1, 900) = not now; rain(0, 0, 0, 1) = wrong; rain(2, 0, 0, 1) = none; run(1) = 1",
                "water(0) = 21; water(1) = 5; ledger(1) = 26; run(50) = 51; rain(0, 60, 1, 1) = not now",
                "storm(60, 1, 1) = 1");
    }

    private static void works(Check c) {
        Runs.due(c, "Throws `IllegalStateException` if the money is not enough, or 6 works go on",
                "addBasin(1, 0); addDyke(0, 20, 7, 1, 0); addDyke(0, 21, 8, 1, 0); budget(0, 110) = 110",
                "raise(0, 1, 1) = 100; raise(0, 1, 2) = 90; 3 x raise(1, 1, 3); raise(1, 2, 9) = 40",
                "raise(0, 1, 1) = not now; raise(0, 0, 1) = wrong; raise(0, 1, 10) = wrong; raise(2, 0, 1) = none",
                "money() = 40",
                "endYear() = 1; dyke(0, 0) = 8; raise(0, 1, 1) = 30; raise(0, 1, 1) = not now; money() = 30",
                "endYear() = 2; dyke(0, 0) = 10; dyke(1, 0) = 8; raise(0, 1, 1) = 20; raise(0, 1, 1) = 10",
                "raise(0, 1, 1) = not now",
                "endYear() = 3; dyke(0, 0) = 12; dyke(1, 0) = 11; budget(0, 50) = 60; 5 x raise(0, 1, 9)",
                "money() = 10; raise(0, 1, 9) = not now; money() = 10");
        Runs.due(c, "is done when so many years have ended",
                "addBasin(1, 0); addDyke(0, 20, 999, 1, 0); addDyke(0, 20, -500, 1, 0); budget(0, 1010) = 1010",
                "raise(0, 99, 9) = 20; raise(1, 1, 1) = 10; run(50); dyke(1, 0) = -500; endYear() = 1",
                "dyke(1, 0) = -499",
                "endYear() = 2; dyke(1, 0) = -499; 6 x endYear(); dyke(0, 0) = 999; endYear() = 9; dyke(0, 0) = 1098",
                "endYear() = 10; dyke(0, 0) = 1098; dyke(1, 0) = -499");
        Runs.due(c, "a work raises the crest of a dyke by so many, costs 10 for each, paid when it is begun",
                // two works on one dyke, which are done in the same year
                "addBasin(1, 0); addDyke(0, 20, 5, 1, 0); budget(0, 60); raise(0, 2, 2) = 40; endYear()",
                "raise(0, 4, 1) = 0",
                "dyke(0, 0) = 5; endYear(); dyke(0, 0) = 11; money() = 0");
        Runs.due(c, "wear and damage stay",
                // a work on a dyke that is damaged, and then on a broken one, raises its crest alone
                "setOutside(0, 0, 2000); addBasin(1, 0); addDyke(0, 21, 999, 30, 0); budget(0, 60); run(1)",
                "raise(0, 2, 1); endYear(); dyke(0, 0) = 1001; dyke(0, 1) = 20",
                "run(1); dyke(0, 2) = 1; raise(0, 3, 1); endYear(); dyke(0, 0) = 1004; dyke(0, 1) = 40",
                "dyke(0, 2) = 1");
    }

    private static void years(Check c) {
        Runs.due(c, "Throws `IllegalStateException` if it is 20",
                "budget(3, 0); 18 x endYear(); endYear() = 19; record(19) = none; run(1) = 1; endYear() = 20",
                "money() = 60",
                "endYear() = not now; endYear() = not now; money() = 60; record(19) = -5000; record(20) = none",
                "run(1) = 2; endYear() = not now; record(19) = -5000; nextHeight(20, 1) = 0",
                "nextHeight(20, 2) = not now",
                "nextHeight(21, 1) = wrong; nextHeight(20, 21) = wrong; nextHeight(20, 20) = not now");
        Runs.due(c, "A year can end at any hour",
                "endYear() = 1; run(1) = 1; endYear() = 2; endYear() = 3; hour() = 1; record(0) = no hour",
                "record(1) = -5000; record(2) = no hour");
    }

    private static void hours(Check c) {
        Runs.due(c, "Throws `IllegalStateException` if the hour would be above 9999",
                "199 x run(50); hour() = 9950; run(50) = not now; run(51) = wrong; run(0) = wrong; run(49) = 9999",
                "run(1) = not now; run(50) = not now; run(51) = wrong; hour() = 9999; level(20) = 0",
                "endYear() = 1; run(1) = not now");
        Runs.due(c, "Throws `IllegalStateException` if the hour would be above 9999 (just not)",
                "run(49); 198 x run(50); hour() = 9949; run(50) = 9999; run(1) = not now; hour() = 9999");
        Runs.due(c, "`begin`: 0 to 9999: the hour",
                // the hour 9998 is the last one that passes: no rain comes that begins behind it
                STILL, "addBasin(1, 0); rain(0, 9998, 99, 3) = 1; rain(0, 9999, 1, 5) = 2",
                "storm(9999, 99, 500) = 1; storm(9998, 1, 7) = 2",
                "199 x run(50); run(48) = 9998; water(0) = 0; level(20) = 700; run(1) = 9999; water(0) = 3",
                "level(20) = 1000; sea(9999) = 1000",
                // 48 hours on: 50000 times 49 and 2, divided by 100;
                // x is 48432 + 749925 + 1 = 798358, rests 11914, by 97 rests 80, less 48
                "forecast(48) = 49320; endYear() = 1; record(0) = 700");
    }

    private static void money(Check c) {
        Runs.due(c, "Throws `IllegalStateException` if the money is not enough (drive)",
                "addBasin(1, 0); addPump(0, 20, 1, 0, 1); drive(0, true, 1) = not now; pump(0, 0) = 0",
                "drive(0, true, 0) = 0; pump(0, 0) = 1",
                "budget(0, 98) = 98; drive(0, false, 99) = not now; pump(0, 0) = 1; pump(0, 1) = 0; money() = 98",
                "drive(0, false, 98) = 98; money() = 0; pump(0, 0) = 0; drive(0, true, 1) = not now",
                "drive(0, true, 0) = 98",
                "drive(0, true, 100) = wrong; drive(1, true, 100) = none; budget(0, 99); drive(0, true, 99) = 197",
                "money() = 0");
        Runs.due(c, "Throws `IllegalStateException` if the money is not enough (mend)",
                STILL, "addBasin(1, 9); pour(0, 9); addPump(0, 21, 1, 0, 1); mend(0) = not now; budget(0, 20)",
                "drive(0, true, 1) = 1; run(1)",
                "pump(0, 2) = 1; money() = 19; mend(0) = not now; pump(0, 2) = 1; money() = 19; budget(0, 1) = 20",
                "mend(0) = 1; money() = 0; pump(0, 2) = 0; mend(0) = not now; mend(1) = none; budget(0, 21)",
                "mend(0) = 0; money() = 1");
        Runs.due(c, "Throws `IllegalStateException` if the money is not enough (send)",
                "addBasin(1, 0); addDyke(0, 20, 0, 1, 0); send(0, 0, 1) = not now; crew(0, 2) = -1",
                "send(0, 0, 0) = 10; crew(0, 2) = 0",
                "budget(0, 5); send(0, -1, 6) = not now; crew(0, 1) = 10; crew(0, 2) = 0; money() = 5",
                "send(0, -1, 5) = 15; money() = 0",
                "crew(0, 2) = -1; send(0, 0, 100) = wrong; send(0, 1, 100) = none; send(3, 0, 100) = none",
                "send(0, -2, 0) = none",
                "budget(0, 99); send(2, -1, 99) = 109; money() = 0; crew(1, 1) = 10");
        Runs.due(c, "Throws `IllegalStateException` if the money is not enough (raise)",
                "addBasin(1, 0); addDyke(0, 20, 0, 1, 0); raise(0, 1, 1) = not now; budget(0, 9) = 9",
                "raise(0, 1, 1) = not now; money() = 9",
                "budget(0, 1) = 10; raise(0, 1, 1) = 0; budget(0, 989) = 989; raise(0, 99, 1) = not now",
                "money() = 989; endYear(); dyke(0, 0) = 1",
                "budget(0, 1); raise(0, 99, 1) = 0; endYear(); dyke(0, 0) = 100; budget(0, 991); raise(0, 99, 9) = 1");
        Runs.due(c, "Sets what is budgeted for a year, and gives money at once.",
                "budget(0, 0) = 0; endYear(); money() = 0; budget(9999, 0) = 0; endYear(); money() = 9999",
                "budget(1, 9999) = 19998",
                "endYear(); money() = 19999; budget(10000, 0) = wrong; budget(0, 10000) = wrong; endYear()",
                "money() = 20000");
    }

    private static void ends(Check c) {
        Runs.due(c, "an end is a basin, 20 or 21",
                "addBasin(1, 3); level(0) = 300; level(1) = none; level(19) = none; level(20) = -5000",
                "level(21) = 0; level(22) = none; level(-1) = none",
                "addGate(0, 19, 1, 0) = none; addGate(22, 0, 1, 0) = none; addGate(0, 20, 1, 0) = 0",
                "addGate(21, 0, 1, 0) = 1",
                "water(20) = none; harm(21) = none; pour(21, 0) = none; setLand(20, 0, 0, 0) = none",
                "share(0, 20) = none; rain(21, 0, 1, 1) = none");
        Runs.due(c, "IllegalArgumentException if both are the same, or none is a basin.",
                "addBasin(1, 0); addBasin(1, 0); addGate(0, 0, 1, 0) = wrong; addGate(20, 20, 1, 0) = wrong",
                "addGate(21, 20, 1, 0) = wrong",
                "addPump(1, 1, 1, 0, 1) = wrong; addPump(21, 21, 1, 0, 1) = wrong; addPump(20, 21, 1, 0, 1) = wrong",
                "addDyke(0, 0, 0, 1, 0) = wrong; addDyke(20, 20, 0, 1, 0) = wrong; addDyke(21, 20, 0, 1, 0) = wrong",
                "addGate(2, 2, 1, 0) = none; addPump(20, 22, 1, 0, 1) = none; addDyke(19, 21, 0, 1, 0) = none",
                "addGate(0, 1, 1, 0) = 0; addPump(1, 0, 1, 0, 1) = 0; addDyke(0, 1, 0, 1, 0) = 0");
    }

    private static void calls(Check c) {
        Runs.due(c, "An object is used for at most 512 calls after it has been made",
                // 7, 0, 0, 510, 51000, 0 by 31; the last call is the 512th
                "addBasin(1, 0); 510 x pour(0, 1); digestAnew() = 202475167");
        Runs.due(c, "An object is used for at most 512 calls after it has been made",
                "addBasin(1, 0); 509 x pour(0, 1); pour(0, 0) = 509; pour(0, 1) = 510");
    }

    private static void roads(Check c) {
        Runs.due(c, "Throws `IllegalArgumentException` if both are the same",
                "road(0, 0, true) = none; addBasin(1, 0); road(0, 0, true) = wrong; road(0, 0, false) = wrong",
                "road(1, 1, true) = none",
                "road(0, 1, true) = none; addBasin(1, 0); road(0, 1, false) = false; road(0, 1, true) = false",
                "road(0, 1, true) = true",
                "road(1, 0, true) = true; road(1, 0, false) = true; road(0, 1, false) = false",
                "road(-1, 0, true) = none; road(0, 20, true) = none");
    }
}
