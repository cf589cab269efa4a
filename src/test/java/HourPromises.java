/** Promise 19, and what an hour does: water, gates, pumps, dykes, harms, crews. */
final class HourPromises {
    private HourPromises() {
    }

    static void run(Check c) {
        run19(c);
        levelling(c);
        outsideEnds(c);
        shutByTide(c);
        pumps(c);
        heads(c);
        seepage(c);
        flowOver(c);
        damage(c);
        breaches(c);
        harms(c);
        crewsWork(c);
        crewsGo(c);
        roadsCut(c);
        order(c);
    }

    private static Polderwardens still(int river) {
        Polderwardens x = new Polderwardens();
        x.setOutside(0, 0, river);
        return x;
    }

    private static void run19(Check c) {
        c.about("promise 19");
        Polderwardens x = new Polderwardens();
        c.wrong(x, "hours 0", () -> x.run(0));
        c.wrong(x, "hours -1", () -> x.run(-1));
        c.wrong(x, "hours 51", () -> x.run(51));
        c.due("run(1)", 1, x.run(1));
        c.due("run(50)", 51, x.run(50));
        c.due("hour()", 51, x.hour());
        for (int i = 0; i < 198; i++) {
            x.run(50);
        }
        c.due("hour()", 9951, x.hour());
        c.notNow(x, "49 more", () -> x.run(49));
        c.wrong(x, "51 more", () -> x.run(51));
        c.due("48 more", 9999, x.run(48));
        c.notNow(x, "1 more", () -> x.run(1));
    }

    private static Polderwardens gateBetween(int area, int other, int litres, int amount) {
        Polderwardens x = still(0);
        x.addBasin(area, 0);
        x.addBasin(other, 0);
        x.addGate(1, 0, amount, 0);
        x.pour(0, litres);
        x.command(0, true, 0);
        x.run(1);
        return x;
    }

    private static void levelling(Check c) {
        c.about("to level two basins");
        Polderwardens x = gateBetween(10, 30, 400, 9999);
        c.due("water(0)", 100, x.water(0));
        c.due("water(1)", 300, x.water(1));
        x = gateBetween(10, 30, 400, 50);
        c.due("an amount at most", 50, x.water(1));
        // level 333, times 21, divided by 10 and by 100: 6
        x = gateBetween(3, 7, 10, 9999);
        c.due("rounded down", 6, x.water(1));
        x = still(0);
        x.addBasin(10, 0);
        x.addBasin(10, 9);
        x.addGate(0, 1, 100, 0);
        x.pour(1, 3);
        x.command(0, true, 0);
        x.run(1);
        c.due("never more than it has", 3, x.water(0));
        c.due("the higher one is empty", 0, x.water(1));
        x.run(1);
        c.due("nothing more", 3, x.water(0));
        x.command(0, false, 0);
        x.pour(1, 7);
        x.run(1);
        c.due("a gate that is shut", 7, x.water(1));
    }

    private static void outsideEnds(Check c) {
        c.about("to level with outside");
        Polderwardens x = still(250);
        x.addBasin(7, 0);
        x.addGate(0, 21, 9999, 0);
        x.command(0, true, 3);
        x.run(1);
        c.due("from the river", 17, x.water(0));
        c.due("ledger(2)", 17, x.ledger(2));
        c.due("ledger(3)", 0, x.ledger(3));
        x.setOutside(0, 0, 100);
        // level 242, difference 142, times 7, divided by 100
        x.run(1);
        c.due("to the river", 8, x.water(0));
        c.due("ledger(2)", 17, x.ledger(2));
        c.due("ledger(3)", 9, x.ledger(3));
        x.setOutside(0, 0, -9999);
        x.run(1);
        c.due("never more than it has", 0, x.water(0));
        c.due("ledger(3)", 17, x.ledger(3));
        x.setOutside(0, 0, 99999);
        x.run(1);
        c.due("an amount by the area", 6999, x.water(0));
        c.wrong(x, "ledger(4)", () -> x.ledger(4));
        c.wrong(x, "ledger(-1)", () -> x.ledger(-1));
    }

    private static void shutByTide(Check c) {
        c.about("gates to the sea");
        Polderwardens x = still(0);
        x.addBasin(10, 1);
        x.addGate(0, 20, 9999, 0);
        x.addGate(20, 0, 9999, 0);
        x.addGate(0, 21, 9999, 0);
        for (int gate = 0; gate < 3; gate++) {
            x.command(gate, true, 3);
        }
        x.setOutside(1, 0, 100);
        x.run(1);
        c.due("as high, stays open", true, x.isOpen(0));
        c.due("as high, stays open", true, x.isOpen(1));
        x.setOutside(2, 0, 300);
        x.run(1);
        c.due("shut by itself", false, x.isOpen(0));
        c.due("shut, the other way round", false, x.isOpen(1));
        c.due("to the river, does not shut", true, x.isOpen(2));
        c.due("water by the river alone", 20, x.water(0));
        x.setOutside(0, 0, 300);
        x.run(1);
        c.due("does not open by itself", false, x.isOpen(0));
        c.due("lets nothing through", 20, x.water(0));
        x.setOutside(2, 0, 300);
        x.addBasin(10, 9);
        x.pour(1, 10);
        x.addGate(1, 0, 9, 0);
        x.command(3, true, 0);
        x.run(1);
        c.due("between basins, does not shut", true, x.isOpen(3));
        ebb(c);
    }

    /** A gate that is open as the sea is low drains the basin, and shuts as the tide comes. */
    private static void ebb(Check c) {
        Polderwardens x = new Polderwardens();
        x.setOutside(0, 12, 0);
        x.addBasin(100, -4);
        x.pour(0, 300);
        x.addGate(0, 20, 9999, 0);
        c.due("open at low tide", 0, x.command(0, true, 0));
        // the sea at -600, -400, -200; the basin at -100
        x.run(1);
        c.due("drained to below its ground", 0, x.water(0));
        c.due("its level", -400, x.level(0));
        x.run(1);
        c.due("the sea as high", true, x.isOpen(0));
        x.run(1);
        c.due("the sea higher", false, x.isOpen(0));
        c.due("kept dry", 0, x.water(0));
        c.due("ledger(3)", 300, x.ledger(3));
        c.due("ledger(2)", 0, x.ledger(2));
    }

    private static void pumps(Check c) {
        c.about("pumps");
        Polderwardens x = still(0);
        x.addBasin(10, 0);
        x.addBasin(10, 0);
        x.addPump(0, 1, 30, 9, 5);
        x.budget(0, 100);
        x.pour(0, 70);
        x.drive(0, false, 4);
        x.run(1);
        c.due("off", 70, x.water(0));
        x.drive(0, true, 0);
        x.run(1);
        c.due("an hour", 40, x.water(0));
        c.due("the other end", 30, x.water(1));
        c.due("fuel", 3, x.pump(0, 1));
        c.due("wear", 1, x.pump(0, 2));
        x.run(3);
        c.due("less, as it has less", 0, x.water(0));
        c.due("the other end", 70, x.water(1));
        c.due("fuel, none used without water", 1, x.pump(0, 1));
        c.due("wear, none without water", 3, x.pump(0, 2));
        x.pour(0, 1000);
        x.run(2);
        c.due("an hour more by the last fuel", 970, x.water(0));
        c.due("no fuel", 0, x.pump(0, 1));
        c.due("wear", 4, x.pump(0, 2));
        x.drive(0, true, 9);
        x.run(3);
        c.due("an hour more, then worn out", 940, x.water(0));
        c.due("fuel is left", 8, x.pump(0, 1));
        c.due("wear at its limit", 5, x.pump(0, 2));
        c.due("is on all the same", 1, x.pump(0, 0));
        c.due("ledger(2)", 0, x.ledger(2));
        c.due("ledger(3)", 0, x.ledger(3));
    }

    private static void heads(Check c) {
        c.about("pumps, heads");
        Polderwardens x = still(-9999);
        x.addBasin(10, 0);
        x.addBasin(10, 4);
        x.pour(0, 10);
        x.addPump(0, 1, 1, 3, 9);
        x.addPump(0, 1, 1, 2, 9);
        x.addPump(1, 0, 5, 0, 9);
        x.budget(0, 100);
        x.drive(1, true, 9);
        x.run(1);
        c.due("300 above, head 2", 10, x.water(0));
        c.due("no fuel is used", 9, x.pump(1, 1));
        x.drive(0, true, 9);
        x.run(1);
        c.due("300 above, head 3", 9, x.water(0));
        x.run(1);
        c.due("320 above, head 3", 9, x.water(0));
        x.drive(2, true, 9);
        x.run(1);
        c.due("downwards, less as it has less", 10, x.water(0));
        x.drive(0, false, 0);
        x.drive(1, false, 0);
        x.addPump(21, 0, 50, 100, 9);
        x.addPump(21, 0, 50, 101, 9);
        x.drive(3, true, 2);
        x.run(1);
        c.due("10099 above the river, head 100", 10, x.water(0));
        c.due("no fuel is used", 2, x.pump(3, 1));
        x.drive(4, true, 1);
        x.run(2);
        c.due("10099 above the river, head 101", 60, x.water(0));
        c.due("ledger(2)", 50, x.ledger(2));
        x.addPump(0, 21, 20, 0, 9);
        x.drive(5, true, 1);
        x.run(1);
        c.due("to the river", 40, x.water(0));
        c.due("ledger(3)", 20, x.ledger(3));
    }

    private static Polderwardens riverDyke(int river, int area, int crest, int seepage) {
        Polderwardens x = still(river);
        x.addBasin(area, 0);
        x.addDyke(0, 21, crest, 999, seepage);
        x.run(1);
        return x;
    }

    private static void seepage(Check c) {
        c.about("dykes seep");
        c.due("2000 times 5", 10, riverDyke(2000, 100, 999, 5).water(0));
        c.due("199 times 99, rounded down", 19, riverDyke(199, 100, 999, 99).water(0));
        c.due("as they would level at most", 20, riverDyke(2000, 1, 999, 99).water(0));
        c.due("no seepage", 0, riverDyke(99900, 100, 999, 0).water(0));
        c.due("ledger(2)", 10, riverDyke(2000, 100, 999, 5).ledger(2));
        Polderwardens x = still(0);
        x.addBasin(10, 0);
        x.addBasin(10, 0);
        x.addDyke(0, 1, 999, 999, 10);
        x.pour(1, 100);
        x.run(1);
        c.due("from the higher basin", 10, x.water(0));
        c.due("from the higher basin", 90, x.water(1));
    }

    private static void flowOver(Check c) {
        c.about("dykes, flow over");
        Polderwardens x = riverDyke(2000, 100, 19, 0);
        c.due("500 at most", 500, x.water(0));
        c.due("damage", 40, x.dyke(0, 1));
        x = riverDyke(2000, 100, 20, 0);
        c.due("not above the crest", 0, x.water(0));
        c.due("damage by height alone", 20, x.dyke(0, 1));
        x = riverDyke(2000, 10, 19, 0);
        c.due("as they would level at most", 200, x.water(0));
        x = still(0);
        x.addBasin(10, 0);
        x.addDyke(21, 0, 25, 999, 0);
        x.pour(0, 300);
        x.run(1);
        c.due("down to the crest at most", 250, x.water(0));
        c.due("ledger(3)", 50, x.ledger(3));
        c.due("damage", 50, x.dyke(0, 1));
        x.run(1);
        c.due("at the crest", 250, x.water(0));
        c.due("damage by 2500", 75, x.dyke(0, 1));
        x = still(0);
        x.addBasin(10, 0);
        x.addDyke(0, 21, 29, 999, 4);
        x.pour(0, 300);
        x.run(1);
        c.due("behind seepage, below the crest", 288, x.water(0));
        c.due("nothing flows over", 30, x.dyke(0, 1));
        x = still(99999);
        x.addBasin(10, 0);
        x.addDyke(0, 21, -500, 999, 0);
        x.pour(0, 9999);
        x.run(1);
        c.due("the higher one is 9 above", 9999, x.water(0));
        c.due("nothing flows, no damage", 0, x.dyke(0, 1));
        x = still(0);
        x.addBasin(10, 50);
        x.addDyke(0, 21, 10, 999, 0);
        x.run(1);
        c.due("an empty basin above the crest", 50, x.dyke(0, 1));
        x = still(101);
        x.addBasin(100, 0);
        x.addDyke(0, 21, 1, 999, 0);
        x.pour(0, 100);
        x.run(1);
        c.due("a litre, by a hundredth above the crest", 101, x.water(0));
        c.due("damage by a litre", 20, x.dyke(0, 1));
    }

    private static void damage(Check c) {
        c.about("dykes, damage");
        c.due("199", 0, riverDyke(199, 1, 999, 0).dyke(0, 1));
        c.due("200", 2, riverDyke(200, 1, 999, 0).dyke(0, 1));
        c.due("399", 3, riverDyke(399, 1, 999, 0).dyke(0, 1));
        c.due("as it was ahead of that", 2, riverDyke(200, 1, 999, 99).dyke(0, 1));
        c.due("-9999", 99, riverDyke(-9999, 1, 999, 0).dyke(0, 1));
        Polderwardens x = still(150);
        x.addBasin(100, 0);
        x.addDyke(0, 21, 1, 999, 0);
        x.run(1);
        c.due("20 by what flows over alone", 20, x.dyke(0, 1));
        c.due("water", 150, x.water(0));
        c.none(x, "dyke(1, 3)", () -> x.dyke(1, 3));
        c.none(x, "dyke(-1, 0)", () -> x.dyke(-1, 0));
        c.wrong(x, "dyke(0, 3)", () -> x.dyke(0, 3));
        c.wrong(x, "dyke(0, -1)", () -> x.dyke(0, -1));
    }

    private static void breaches(Check c) {
        c.about("dykes break");
        Polderwardens x = still(2000);
        x.addBasin(100, 0);
        x.addDyke(0, 21, 999, 39, 1);
        x.run(1);
        c.due("seeps", 2, x.water(0));
        c.due("damage", 20, x.dyke(0, 1));
        c.due("whole", 0, x.dyke(0, 2));
        x.run(1);
        c.due("seeps and breaks, no flow by that", 3, x.water(0));
        c.due("damage is its strength", 39, x.dyke(0, 1));
        c.due("breach", 1, x.dyke(0, 2));
        long water = 3;
        for (int breach = 1; breach <= 12; breach++) {
            x.run(1);
            water += Math.min(50L * Math.min(breach, 10), 2000 - water);
            c.due("water by breach " + breach, water, x.water(0));
            c.due("breach behind " + breach, Math.min(breach + 1, 10), x.dyke(0, 2));
        }
        c.due("damage stays", 39, x.dyke(0, 1));
        breachBothWays(c);
    }

    private static void breachBothWays(Check c) {
        Polderwardens x = still(2000);
        x.addBasin(100, 0);
        x.addDyke(0, 21, 19, 40, 0);
        x.run(1);
        c.due("flows over and breaks", 500, x.water(0));
        c.due("breach", 1, x.dyke(0, 2));
        x.run(1);
        c.due("flows by the breach alone", 550, x.water(0));
        x.setOutside(0, 0, 0);
        x.run(1);
        c.due("flows back", 450, x.water(0));
        c.due("ledger(3)", 100, x.ledger(3));
        x = still(150);
        x.addBasin(100, 0);
        x.addDyke(0, 21, 999, 1, 0);
        x.run(3);
        c.due("no damage below 200", 0, x.dyke(0, 2));
        x.setOutside(0, 0, 200);
        x.run(1);
        c.due("a strength of 1", 1, x.dyke(0, 2));
        x = new Polderwardens();
        x.addBasin(100, 0);
        x.setOutside(50, 0, 0);
        x.addDyke(20, 0, 999, 50, 0);
        x.run(2);
        c.due("a breach to the sea does not shut", 50, x.water(0));
    }

    private static void harms(Check c) {
        c.about("harms");
        int[] above = {0, 1, 49, 50, 99, 449, 450, 499, 500, 5000};
        int[] times = {0, 1, 1, 2, 2, 9, 10, 10, 10, 10};
        for (int i = 0; i < above.length; i++) {
            Polderwardens x = still(0);
            x.addBasin(100, -3);
            x.setLand(0, 0, 100, 7);
            x.pour(0, 100 + above[i]);
            x.run(1);
            c.due("harm, " + above[i] + " above the floor", 7 * times[i], x.harm(0));
            x.run(2);
            c.due("harm, three hours", 21 * times[i], x.harm(0));
        }
        Polderwardens x = still(0);
        x.addBasin(100, 0);
        x.pour(0, 9000);
        x.run(1);
        c.due("without worth", 0, x.harm(0));
        c.none(x, "harm(1)", () -> x.harm(1));
        c.none(x, "harm(-1)", () -> x.harm(-1));
        c.none(x, "harm(20)", () -> x.harm(20));
    }

    private static void crewsWork(Check c) {
        c.about("crews work");
        Polderwardens x = still(2000);
        x.addBasin(100, 0);
        x.addDyke(0, 21, 999, 999, 0);
        x.send(0, 0, 0);
        x.run(1);
        c.due("15 less in the same hour", 5, x.dyke(0, 1));
        c.due("a sandbag", 9, x.crew(0, 1));
        x.run(9);
        c.due("the last sandbag", 50, x.dyke(0, 1));
        c.due("no sandbag", 0, x.crew(0, 1));
        x.run(1);
        c.due("without sandbags", 70, x.dyke(0, 1));
        c.due("none less than none", 0, x.crew(0, 1));
        x.setOutside(0, 0, 1000);
        x.send(1, 0, 0);
        x.send(2, 0, 0);
        x.run(1);
        c.due("two crews", 50, x.dyke(0, 1));
        x.run(3);
        // 60 - 30, 40 - 30, 20 - 30
        c.due("not below 0", 0, x.dyke(0, 1));
        x.run(1);
        c.due("damage is 10, one crew is enough", 0, x.dyke(0, 1));
        c.due("crew 1 used one more", 5, x.crew(1, 1));
        c.due("crew 2 used none", 6, x.crew(2, 1));
        c.due("it stays sent", 0, x.crew(2, 2));
        x.setOutside(0, 0, 0);
        x.run(3);
        c.due("nothing to mend", 5, x.crew(1, 1));
        mendBreaches(c);
    }

    private static void mendBreaches(Check c) {
        Polderwardens x = still(2000);
        x.addBasin(100, 0);
        x.addDyke(0, 21, 999, 20, 0);
        x.run(5);
        c.due("breach", 5, x.dyke(0, 2));
        x.send(2, 0, 0);
        x.run(1);
        c.due("6, less 3", 3, x.dyke(0, 2));
        c.due("damage is not less", 20, x.dyke(0, 1));
        x.run(1);
        c.due("4, less 3", 1, x.dyke(0, 2));
        x.run(1);
        c.due("2, less 3, is whole", 0, x.dyke(0, 2));
        c.due("without damage", 0, x.dyke(0, 1));
        c.due("sandbags", 7, x.crew(2, 1));
        x.send(2, -1, 0);
        // 1050 of difference: damage 10, 20; then an hour's flow
        x.run(3);
        c.due("breaks again", 2, x.dyke(0, 2));
        x.send(2, 0, 0);
        x.run(1);
        c.due("3, less 3, is whole", 0, x.dyke(0, 2));
        c.due("without damage again", 0, x.dyke(0, 1));
    }

    /** Five basins: 0 to 3 by 1 or by 2, then 4, at which there is a dyke. */
    private static Polderwardens fiveBasins() {
        Polderwardens x = still(2000);
        for (int i = 0; i < 5; i++) {
            x.addBasin(100, 0);
        }
        x.road(2, 0, true);
        x.road(0, 1, true);
        x.road(1, 3, true);
        x.road(3, 2, true);
        x.road(3, 4, true);
        x.addDyke(21, 4, 999, 999, 0);
        return x;
    }

    private static void crewsGo(Check c) {
        c.about("crews go");
        Polderwardens x = fiveBasins();
        x.send(1, 0, 0);
        int[] way = {1, 3, 4, 4};
        for (int hour = 0; hour < 4; hour++) {
            c.due("sandbags on the way", 10, x.crew(1, 1));
            x.run(1);
            c.due("behind hour " + hour, way[hour], x.crew(1, 0));
        }
        c.due("works the hour behind", 65, x.dyke(0, 1));
        c.due("one sandbag", 9, x.crew(1, 1));
        c.due("who is not sent stays", 0, x.crew(0, 0));
        x.addDyke(2, 4, 999, 999, 0);
        x.send(1, 1, 0);
        x.run(1);
        x.send(1, -1, 0);
        x.run(1);
        c.due("called off, it stays", 3, x.crew(1, 0));
        x.send(1, 1, 0);
        x.run(3);
        c.due("the first end of two basins", 2, x.crew(1, 0));
        x.addDyke(0, 2, 999, 999, 0);
        x.send(1, 2, 0);
        x.run(1);
        c.due("the first end, though the second is here", 0, x.crew(1, 0));
        fewestRoads(c);
    }

    private static void fewestRoads(Check c) {
        Polderwardens x = fiveBasins();
        x.road(1, 3, false);
        x.send(0, 0, 0);
        x.run(1);
        c.due("2 is nearer than 1, which is near", 2, x.crew(0, 0));
        x = fiveBasins();
        x.road(1, 3, false);
        x.road(2, 3, false);
        x.addBasin(100, 0);
        x.road(1, 2, true);
        x.road(2, 5, true);
        x.road(5, 3, true);
        x.send(0, 0, 0);
        int[] way = {2, 5, 3, 4, 4};
        for (int hour = 0; hour < 5; hour++) {
            x.run(1);
            c.due("fewest roads, hour " + hour, way[hour], x.crew(0, 0));
        }
        x = fiveBasins();
        x.road(3, 4, false);
        x.send(0, 0, 0);
        x.run(2);
        c.due("no way", 0, x.crew(0, 0));
        x.road(0, 4, true);
        x.run(1);
        c.due("a way now", 4, x.crew(0, 0));
    }

    /** Where the crew is behind an hour, if a basin with its floor at 50 has so much water. */
    private static int behindFlood(int basin, int litres) {
        Polderwardens x = fiveBasins();
        x.setLand(basin, 0, 50, 0);
        x.pour(basin, litres);
        x.send(0, 0, 0);
        x.run(1);
        return x.crew(0, 0);
    }

    private static void roadsCut(Check c) {
        c.about("roads are cut");
        c.due("1 at 149", 1, behindFlood(1, 149));
        c.due("1 at 150, by 2", 2, behindFlood(1, 150));
        c.due("here at 149", 1, behindFlood(0, 149));
        c.due("here at 150", 0, behindFlood(0, 150));
        c.due("3 at 150, no way", 0, behindFlood(3, 150));
        c.due("the goal at 149", 1, behindFlood(4, 149));
        c.due("the goal at 150, no way", 0, behindFlood(4, 150));
        c.due("2 at 150 is not on the way", 1, behindFlood(2, 150));
        Polderwardens x = fiveBasins();
        x.setLand(4, 0, 50, 0);
        x.send(0, 0, 0);
        x.run(3);
        x.pour(4, 5000);
        x.run(1);
        c.due("a crew that is there works", 9, x.crew(0, 1));
        x.addDyke(0, 21, 999, 999, 0);
        x.send(0, 1, 0);
        x.run(2);
        c.due("but goes nowhere", 4, x.crew(0, 0));
        x = fiveBasins();
        x.rain(1, 0, 1, 200);
        x.send(0, 0, 0);
        x.run(1);
        c.due("cut by the rain of this hour", 2, x.crew(0, 0));
    }

    /** Grounds at 30, 20 and 10, the river at 0: all water goes down. */
    private static Polderwardens stairs() {
        Polderwardens x = still(0);
        x.addBasin(100, 30);
        x.addBasin(100, 20);
        x.addBasin(100, 10);
        x.budget(0, 100);
        return x;
    }

    private static void order(Check c) {
        c.about("the order of an hour");
        Polderwardens x = stairs();
        x.rain(0, 0, 1, 50);
        x.addGate(0, 1, 99, 0);
        x.addGate(1, 2, 99, 0);
        x.command(0, true, 0);
        x.command(1, true, 0);
        x.addPump(2, 0, 99, 99, 9);
        x.addPump(0, 21, 99, 0, 9);
        x.drive(0, true, 1);
        x.drive(1, true, 1);
        x.run(1);
        c.due("rain, gates and pumps by rising numbers, all in an hour", 50, x.ledger(3));
        x = stairs();
        x.pour(0, 50);
        x.addGate(1, 2, 99, 0);
        x.addGate(0, 1, 99, 0);
        x.command(0, true, 0);
        x.command(1, true, 0);
        x.run(1);
        c.due("gate 0 ahead of gate 1", 50, x.water(1));
        x = stairs();
        x.pour(0, 50);
        x.addPump(1, 2, 99, 0, 9);
        x.addPump(0, 1, 99, 0, 9);
        x.drive(0, true, 1);
        x.drive(1, true, 1);
        x.run(1);
        c.due("pump 0 ahead of pump 1", 50, x.water(1));
        orderOfDykes(c);
    }

    private static void orderOfDykes(Check c) {
        Polderwardens x = stairs();
        x.pour(0, 500);
        x.addPump(0, 1, 99, 99, 9);
        x.drive(0, true, 1);
        x.addDyke(1, 2, 20, 999, 0);
        x.addDyke(2, 21, 10, 999, 0);
        x.setLand(2, 0, 0, 1);
        x.run(1);
        c.due("pump, dyke, dyke in an hour", 99, x.ledger(3));
        c.due("no harm behind the dykes", 0, x.harm(2));
        x = stairs();
        x.pour(0, 500);
        x.addPump(0, 1, 99, 99, 9);
        x.drive(0, true, 1);
        x.addDyke(2, 21, 10, 999, 0);
        x.addDyke(1, 2, 20, 999, 0);
        x.setLand(1, 0, 0, 1);
        x.setLand(2, 0, 0, 1);
        x.run(1);
        c.due("dyke 0 ahead of dyke 1", 99, x.water(2));
        c.due("harm by what came in this hour", 2, x.harm(2));
        c.due("no harm where it left in this hour", 0, x.harm(1));
    }
}
