/** Harms, crews and roads, just where the document draws a line. */
final class EdgeCrews {
    /** Basin 0, whose dyke gets damage by the river alone. */
    private static final String DYKE = "addBasin(1, 0); addDyke(0, 21, 999, 999, 0); ";
    /** Basins 0 and 1 with floors at their grounds, a road, and a dyke at 1; litres are levels. */
    private static final String TWO = "setOutside(0, 0, 0); addBasin(100, 0); addBasin(100, 0); "
            + "setLand(0, 0, 0, 0); setLand(1, 0, 0, 0);"
            + "road(0, 1, true); addDyke(21, 1, 999, 999, 0); ";

    private EdgeCrews() {
    }

    static void run(Check c) {
        harms(c);
        harmsOfFloors(c);
        bags(c);
        damage(c);
        breaches(c);
        manyCrews(c);
        arrival(c);
        cutRoads(c);
        cutByFloors(c);
        ways(c);
        sameWays(c);
        firstEnd(c);
    }

    private static void harms(Check c) {
        String sentence = "if its level is above that, the harm is its worth, times the lesser of the difference,"
                + " divided by 50, rounded down, and 9, and 1 more, together";
        int[] water = {0, 99, 100, 101, 149, 150, 199, 200, 499, 500, 549, 550, 599, 600, 1000000};
        int[] times = {0, 0, 0, 1, 1, 2, 2, 3, 8, 9, 9, 10, 10, 10, 10};
        for (int i = 0; i < water.length; i++) {
            String pond = "addBasin(100, -7); pour(0, " + water[i] + "); ";
            Runs.due(c, sentence, pond, "setLand(0, 0, 100, 1); run(1); harm(0) = " + times[i], "run(1)",
                    "harm(0) = " + 2 * times[i]);
            Runs.due(c, sentence, pond, "setLand(0, 0, 100, 99); run(1); harm(0) = " + 99 * times[i]);
        }
        Runs.due(c, "of each basin that has a worth", "addBasin(100, 0); pour(0, 900); run(1); harm(0) = 0",
                "setLand(0, 0, 100, 0); run(1); harm(0) = 0",
                "setLand(0, 0, 100, 1); harm(0) = 0; run(1); harm(0) = 10; setLand(0, 0, 100, 0); run(1)",
                "harm(0) = 10; setLand(0, 0, 0, 100) = wrong");
    }

    private static void harmsOfFloors(Check c) {
        String sentence = "what stands above its floor, which is some hundredths above the ground";
        Runs.due(c, sentence, "addBasin(100, 0); setLand(0, 0, 0, 1); run(1); harm(0) = 0; pour(0, 1); run(1)",
                "harm(0) = 1");
        Runs.due(c, sentence, "addBasin(100, 0); setLand(0, 0, 9999, 1); pour(0, 9999); run(1); harm(0) = 0",
                "pour(0, 1); run(1); harm(0) = 1",
                "setLand(0, 0, 10000, 1) = wrong; setLand(0, 0, -1, 1) = wrong; run(1); harm(0) = 2");
        // areas of 3: a level of 33, of 66
        Runs.due(c, sentence, "addBasin(3, 0); setLand(0, 0, 33, 1); pour(0, 1); run(1); harm(0) = 0",
                "setLand(0, 0, 32, 1); run(1); harm(0) = 1",
                "setLand(0, 0, 66, 1); pour(0, 1); run(1); harm(0) = 1; setLand(0, 0, 65, 1); run(1); harm(0) = 2");
        // the floor sinks with the ground
        Runs.due(c, sentence, "addBasin(100, 0); setLand(0, 20, 100, 1); pour(0, 100); run(1); endYear()",
                "level(0) = -1900; run(1); harm(0) = 0; pour(0, 1); run(1); harm(0) = 1");
    }

    private static void bags(Check c) {
        String sentence = "it works in that hour, if the dyke is broken or damaged, as long as it has sandbags: 1"
                + " is used";
        Runs.due(c, sentence, DYKE, "setOutside(0, 0, 199); send(0, 0, 0) = 10; run(3); crew(0, 1) = 10",
                "setOutside(0, 0, 200); run(1); crew(0, 1) = 9; dyke(0, 1) = 0");
        Runs.due(c, sentence, DYKE, "setOutside(0, 0, 2000); send(0, 0, 0); run(9); crew(0, 1) = 1",
                "dyke(0, 1) = 45; run(1); crew(0, 1) = 0; dyke(0, 1) = 50",
                "run(1); crew(0, 1) = 0; dyke(0, 1) = 70; budget(0, 1); send(0, 0, 1) = 1; run(1); crew(0, 1) = 0",
                "dyke(0, 1) = 75; run(1); dyke(0, 1) = 95");
        Runs.due(c, sentence, DYKE, "setOutside(0, 0, 2000); run(1); dyke(0, 1) = 20; crew(0, 1) = 10",
                "send(0, 0, 0); send(0, -1, 0); run(1); dyke(0, 1) = 40; crew(0, 1) = 10");
        // one without sandbags goes all the same, and works when it has some
        Runs.due(c, "Sent to a dyke, a crew goes there", DYKE, "addBasin(1, 0); addDyke(1, 21, 999, 999, 0)",
                "road(0, 1, true); setOutside(0, 0, 2000); send(0, 0, 0); run(10); crew(0, 1) = 0",
                "dyke(1, 1) = 200; send(0, 1, 0) = 0; run(1); crew(0, 0) = 1; run(1); crew(0, 1) = 0",
                "dyke(1, 1) = 240; budget(0, 1); send(0, 1, 1) = 1; run(1); crew(0, 1) = 0; dyke(1, 1) = 245");
        Runs.due(c, "`bags`: 0 to 99: how many more, 1 of the money each", "budget(0, 9999); 10 x send(0, -1, 99)",
                "crew(0, 1) = 1000; send(0, -1, 99) = 1099; money() = 8910; crew(1, 1) = 10");
    }

    private static void damage(Check c) {
        String sentence = "of another one the damage is 15 less, but not below 0";
        Runs.due(c, sentence, DYKE, "setOutside(0, 0, 1499); send(1, 0, 0); run(1); dyke(0, 1) = 0; crew(1, 1) = 9");
        Runs.due(c, sentence, DYKE, "setOutside(0, 0, 1500); send(1, 0, 0); run(1); dyke(0, 1) = 0; crew(1, 1) = 9");
        Runs.due(c, sentence, DYKE, "setOutside(0, 0, 1600); send(1, 0, 0); run(1); dyke(0, 1) = 1",
                "crew(1, 1) = 9; setOutside(0, 0, 0); run(1)",
                "dyke(0, 1) = 0; crew(1, 1) = 8; run(1); dyke(0, 1) = 0; crew(1, 1) = 8");
    }

    private static void breaches(Check c) {
        String sentence = "of a broken dyke the breach is 3 less; "
                + "when it is 0 or less, the dyke is whole, without damage";
        String deep = "setOutside(0, 0, 2000); addBasin(100, 0); addDyke(0, 21, 999, 20, 0); ";
        // it breaks, and is whole by the same hour's end
        Runs.due(c, sentence, deep, "send(0, 0, 0); run(1); dyke(0, 2) = 0; dyke(0, 1) = 0; crew(0, 1) = 9",
                "run(1); dyke(0, 2) = 0; dyke(0, 1) = 0; crew(0, 1) = 8; water(0) = 0");
        Runs.due(c, sentence, deep, "run(1); dyke(0, 2) = 1; send(0, 0, 0); run(1); water(0) = 50; dyke(0, 2) = 0",
                "dyke(0, 1) = 0; crew(0, 1) = 9");
        Runs.due(c, sentence, deep, "run(2); dyke(0, 2) = 2; send(0, 0, 0); run(1); water(0) = 150",
                "dyke(0, 2) = 0; dyke(0, 1) = 0; crew(0, 1) = 9");
        Runs.due(c, sentence, deep, "run(3); dyke(0, 2) = 3; send(0, 0, 0); run(1); dyke(0, 2) = 1",
                "dyke(0, 1) = 20; crew(0, 1) = 9; run(1); dyke(0, 2) = 0; dyke(0, 1) = 0",
                // 300 and 50 litres came in; a whole one lets nothing in, and is damaged anew
                "water(0) = 350; run(1); water(0) = 350; dyke(0, 1) = 1");
        Runs.due(c, sentence, deep, "run(12); dyke(0, 2) = 10; send(0, 0, 0); run(1); dyke(0, 2) = 7; run(1)",
                "dyke(0, 2) = 5; run(1); dyke(0, 2) = 3; run(1); dyke(0, 2) = 1",
                "dyke(0, 1) = 20; run(1); dyke(0, 2) = 0; dyke(0, 1) = 0; crew(0, 1) = 5; run(5); dyke(0, 2) = 0",
                "crew(0, 1) = 5");
    }

    private static void manyCrews(Check c) {
        String sentence = "There are the crews 0 to 2, each at a basin, 0 at first, with sandbags, 10 at first.";
        Runs.due(c, sentence, "crew(0, 0) = 0; crew(0, 1) = 10; crew(0, 2) = -1; crew(2, 0) = 0; crew(2, 1) = 10",
                "crew(2, 2) = -1; crew(3, 0) = none; crew(-1, 0) = none",
                "crew(0, 3) = wrong; crew(0, -1) = wrong; crew(3, 3) = none; send(3, -1, 0) = none",
                "send(2, -1, 0) = 10");
        String all = "send(0, 0, 0); send(1, 0, 0); send(2, 0, 0); run(1); ";
        String deep = "setOutside(0, 0, 2000); addBasin(100, 0); addDyke(0, 21, 999, 20, 0); ";
        Runs.due(c, "of a broken dyke the breach is 3 less", deep, "run(12); dyke(0, 2) = 10",
                all, "dyke(0, 2) = 1; dyke(0, 1) = 20; run(1); dyke(0, 2) = 0",
                "dyke(0, 1) = 0; crew(0, 1) = 8; crew(1, 1) = 9; crew(2, 1) = 9");
        // 9 and 10 by the hour's flow
        Runs.due(c, "when it is 0 or less, the dyke is whole", deep, "run(8); dyke(0, 2) = 8",
                all, "dyke(0, 2) = 0; dyke(0, 1) = 0; crew(2, 1) = 9");
        Runs.due(c, "when it is 0 or less, the dyke is whole", deep, "run(9); dyke(0, 2) = 9",
                all, "dyke(0, 2) = 1; dyke(0, 1) = 20; crew(2, 1) = 9");
        Runs.due(c, "if the dyke is broken or damaged", deep, "run(5); dyke(0, 2) = 5", all, "dyke(0, 2) = 0",
                "crew(0, 1) = 9; crew(1, 1) = 9; crew(2, 1) = 10");
        Runs.due(c, "of another one the damage is 15 less", DYKE, "setOutside(0, 0, 3000)", all, "dyke(0, 1) = 0",
                "crew(1, 1) = 9; crew(2, 1) = 10");
        Runs.due(c, "of another one the damage is 15 less", DYKE, "setOutside(0, 0, 3100)", all, "dyke(0, 1) = 0",
                "crew(1, 1) = 9; crew(2, 1) = 9");
        Runs.due(c, "of another one the damage is 15 less", DYKE, "setOutside(0, 0, 4600)", all, "dyke(0, 1) = 1",
                "crew(2, 1) = 9");
    }

    private static void arrival(Check c) {
        Runs.due(c, "If it is there as an hour comes to crews, it works in that hour",
                TWO, "setOutside(0, 0, 2000); send(0, 0, 0); run(1); crew(0, 0) = 1; crew(0, 1) = 10",
                "dyke(0, 1) = 20; run(1); crew(0, 1) = 9; dyke(0, 1) = 25");
        Runs.due(c, "when there is no way, it stays", TWO, "road(0, 1, false) = true; send(0, 0, 0); run(3)",
                "crew(0, 0) = 0; crew(0, 2) = 0; crew(0, 1) = 10",
                "road(1, 0, true) = false; run(1); crew(0, 0) = 1; road(0, 1, false); addDyke(0, 21, 999, 999, 0)",
                "send(0, 1, 0); run(1); crew(0, 0) = 1");
        Runs.due(c, "Sends a crew to a dyke, or calls it off", TWO, "send(0, 0, 0); send(0, -1, 0); run(2)",
                "crew(0, 0) = 0; crew(0, 2) = -1; send(0, 0, 0); run(1); crew(0, 0) = 1");
    }

    private static void cutRoads(Check c) {
        String sentence = "a road is cut, when one of both basins stands 100 or more above its floor";
        Runs.due(c, sentence, TWO, "pour(1, 99); send(0, 0, 0); run(1); crew(0, 0) = 1");
        Runs.due(c, sentence, TWO, "pour(1, 100); send(0, 0, 0); run(1); crew(0, 0) = 0");
        Runs.due(c, sentence, TWO, "pour(0, 99); send(0, 0, 0); run(1); crew(0, 0) = 1");
        Runs.due(c, sentence, TWO, "pour(0, 100); send(0, 0, 0); run(1); crew(0, 0) = 0; addPump(0, 21, 1, 99, 9)",
                "budget(0, 9); drive(0, true, 1); run(1); crew(0, 0) = 1");
        // the water is that of this hour, when crews go
        Runs.due(c, sentence, TWO, "pour(1, 99); rain(1, 0, 1, 1); send(0, 0, 0); run(1); crew(0, 0) = 0");
        Runs.due(c, sentence, TWO, "pour(1, 100); addGate(1, 21, 1, 0); command(0, true, 0); send(0, 0, 0)",
                "run(1); crew(0, 0) = 1");
        // who is there works, though all roads are cut
        Runs.due(c, sentence, TWO, "send(0, 0, 0); run(1); pour(1, 100000); run(1); crew(0, 0) = 1; crew(0, 1) = 9");
        Runs.due(c, sentence, TWO, "pour(0, 100000); addDyke(0, 21, 999, 999, 0); send(0, 1, 0); run(1)",
                "crew(0, 1) = 9; send(0, 0, 0); run(1); crew(0, 0) = 0");
    }

    private static void cutByFloors(Check c) {
        String sentence = "a road is cut, when one of both basins stands 100 or more above its floor";
        Runs.due(c, sentence, TWO, "setLand(1, 0, 9999, 0); pour(1, 10098); send(0, 0, 0); run(1); crew(0, 0) = 1");
        Runs.due(c, sentence, TWO, "setLand(1, 0, 9999, 0); pour(1, 10099); send(0, 0, 0); run(1); crew(0, 0) = 0");
        // areas of 3: levels of 133 and 166 hundredths
        String three = "setOutside(0, 0, 0); addBasin(1, 0); addBasin(3, 0); road(1, 0, true); "
                + "addDyke(1, 20, 999, 999, 0); send(0, 0, 0); ";
        Runs.due(c, sentence, three, "setLand(1, 0, 34, 0); pour(1, 4); run(1); crew(0, 0) = 1");
        Runs.due(c, sentence, three, "setLand(1, 0, 33, 0); pour(1, 4); run(1); crew(0, 0) = 0");
        Runs.due(c, sentence, TWO, "setLand(1, 20, 0, 0); endYear(); pour(1, 99); send(0, 0, 0); run(1)",
                "crew(0, 0) = 1");
        Runs.due(c, sentence, TWO, "setLand(1, 20, 0, 0); endYear(); pour(1, 100); send(0, 0, 0); run(1)",
                "crew(0, 0) = 0");
    }

    private static void ways(Check c) {
        String chain = "setOutside(0, 0, 0); 8 x addBasin(100, 0); road(0, 1, true); road(1, 2, true); "
                + "road(2, 3, true); road(3, 4, true);"
                + "road(4, 5, true); road(5, 6, true); road(6, 7, true); addDyke(7, 20, 999, 999, 0); send(2, 0, 0); ";
        Runs.due(c, "one road an hour", chain, "run(1); crew(2, 0) = 1; run(5); crew(2, 0) = 6; run(1)",
                "crew(2, 0) = 7; run(9); crew(2, 0) = 7; crew(1, 0) = 0");
        Runs.due(c, "by the fewest roads that are not cut", chain, "road(0, 7, true); run(1); crew(2, 0) = 7");
        Runs.due(c, "by the fewest roads that are not cut", chain, "road(0, 6, true); run(1); crew(2, 0) = 6",
                "run(1); crew(2, 0) = 7");
        Runs.due(c, "by the fewest roads that are not cut", chain, "road(0, 6, true); pour(6, 199); run(1)",
                "crew(2, 0) = 6");
        Runs.due(c, "by the fewest roads that are not cut", chain, "road(5, 7, true); road(0, 6, true)",
                "pour(6, 200); run(1); crew(2, 0) = 1; run(4); crew(2, 0) = 5; run(1); crew(2, 0) = 7");
        Runs.due(c, "when there is no way, it stays", chain, "pour(6, 200); run(2); crew(2, 0) = 0",
                "crew(2, 2) = 0; road(5, 7, true); run(6); crew(2, 0) = 7");
        // the way is looked for anew each hour
        Runs.due(c, "by the fewest roads that are not cut", chain, "road(0, 5, true); run(3); crew(2, 0) = 7",
                "addDyke(0, 20, 999, 999, 0); send(2, 1, 0); run(1); crew(2, 0) = 6",
                "road(0, 5, false); road(7, 0, true); run(1); crew(2, 0) = 7; run(1); crew(2, 0) = 0");
    }

    private static void sameWays(Check c) {
        String sentence = "of several ways the one whose next basin has the lowest number";
        String seven = "setOutside(0, 0, 0); 7 x addBasin(100, 0); addDyke(6, 20, 999, 999, 0); send(0, 0, 0); ";
        Runs.due(c, sentence, seven, "road(0, 5, true); road(0, 2, true); road(5, 6, true); road(2, 6, true)",
                "run(1); crew(0, 0) = 2; run(1); crew(0, 0) = 6");
        // by 5 and 1, or by 2 and 4: the next one counts alone
        Runs.due(c, sentence, seven, "road(0, 5, true); road(0, 2, true); road(5, 1, true); road(2, 4, true)",
                "road(1, 6, true); road(4, 6, true); run(1); crew(0, 0) = 2",
                "run(1); crew(0, 0) = 4; run(1); crew(0, 0) = 6");
        Runs.due(c, sentence, seven, "road(0, 5, true); road(5, 4, true); road(5, 3, true); road(4, 6, true)",
                "road(3, 6, true); run(1); crew(0, 0) = 5; run(1); crew(0, 0) = 3");
        // the lowest is cut, is no shorter way, or leads nowhere
        Runs.due(c, sentence, seven, "road(0, 5, true); road(0, 2, true); road(5, 6, true); road(2, 6, true)",
                "pour(2, 200); run(1); crew(0, 0) = 5");
        Runs.due(c, sentence, seven, "road(0, 1, true); road(1, 2, true); road(2, 6, true); road(0, 5, true)",
                "road(5, 6, true); run(1); crew(0, 0) = 5");
        Runs.due(c, sentence, seven, "road(0, 1, true); road(0, 5, true); road(5, 6, true); run(1); crew(0, 0) = 5");
    }

    private static void firstEnd(Check c) {
        String sentence = "to the first end of the dyke that is a basin";
        String two = "setOutside(0, 0, 0); addBasin(100, 20); addBasin(100, 0); road(0, 1, true); ";
        Runs.due(c, sentence, two, "addDyke(1, 0, 999, 999, 0); send(0, 0, 0); run(1); crew(0, 0) = 1",
                "crew(0, 1) = 10; dyke(0, 1) = 20; run(1); crew(0, 1) = 9");
        Runs.due(c, sentence, two, "addDyke(0, 1, 999, 999, 0); send(0, 0, 0); run(1); crew(0, 0) = 0",
                "crew(0, 1) = 9; dyke(0, 1) = 5");
        Runs.due(c, sentence, two, "addDyke(20, 1, 999, 999, 0); addDyke(1, 21, 999, 999, 0); send(0, 0, 0)",
                "send(1, 1, 0); run(1); crew(0, 0) = 1; crew(1, 0) = 1; crew(2, 0) = 0");
    }
}
