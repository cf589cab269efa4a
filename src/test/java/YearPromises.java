/** Promises 20 and 33 to 35: years, records, the next height, shares. */
final class YearPromises {
    private YearPromises() {
    }

    static void run(Check c) {
        endYear(c);
        records(c);
        nextHeight(c);
        shares(c);
        sharesByRecords(c);
        rests(c);
    }

    private static void endYear(Check c) {
        c.about("promise 20");
        Polderwardens x = new Polderwardens();
        x.setOutside(0, 0, 2000);
        x.addBasin(10, 0);
        x.addBasin(10, 0);
        x.setLand(0, 7, 100, 1);
        x.pour(0, 10);
        x.pour(1, 10);
        x.addDyke(0, 21, 999, 999, 0);
        x.addPump(1, 21, 1, 999, 9);
        x.budget(30, 50);
        x.drive(0, true, 5);
        x.run(3);
        c.due("endYear()", 1, x.endYear());
        c.due("hour() stays", 3, x.hour());
        c.due("money()", 75, x.money());
        c.due("level(0), water and all", -600, x.level(0));
        c.due("water(0) stays", 10, x.water(0));
        c.due("level(1)", 70, x.level(1));
        c.due("damage stays", 57, x.dyke(0, 1));
        c.due("wear stays", 3, x.pump(0, 2));
        c.due("fuel stays", 2, x.pump(0, 1));
        x.pour(0, 11);
        x.run(1);
        c.due("the floor sinks too: 110 above it", 3, x.harm(0));
        for (int year = 2; year <= 20; year++) {
            c.due("endYear()", year, x.endYear());
        }
        c.notNow(x, "a year more", () -> x.endYear());
        c.due("money()", 75 + 19 * 30, x.money());
        c.due("level(0)", 100 * -140 + 210, x.level(0));
        c.due("hours go on", 5, x.run(1));
    }

    private static void records(Check c) {
        c.about("promise 33");
        Polderwardens x = new Polderwardens();
        c.none(x, "record(0)", () -> x.record(0));
        c.none(x, "record(-1)", () -> x.record(-1));
        x.run(1);
        x.endYear();
        c.due("the hour that passed alone", -5000, x.record(0));
        c.none(x, "record(1)", () -> x.record(1));
        x.endYear();
        c.due("no hour passed", Long.MIN_VALUE, x.record(1));
        x.run(11);
        x.endYear();
        c.due("high tide", 5000, x.record(2));
        x.run(1);
        x.endYear();
        c.due("noted anew", -5000, x.record(3));
        x.storm(15, 1, 30);
        x.storm(17, 1, 400);
        x.run(4);
        x.setOutside(-99, 0, 0);
        x.endYear();
        c.due("as the sea was in the hour", 3000, x.record(4));
        x.run(1);
        x.endYear();
        c.due("a storm and another mean", 30100, x.record(5));
        c.due("the first one stays", -5000, x.record(0));
        c.none(x, "record(6)", () -> x.record(6));
        c.none(x, "record(20)", () -> x.record(20));
        for (int year = 7; year <= 20; year++) {
            x.endYear();
        }
        c.due("record(19)", Long.MIN_VALUE, x.record(19));
        c.none(x, "record(20) of 20", () -> x.record(20));
    }

    /** With surges of 1066 in hours 1 and 2, and of 66 in hours 3 and 4. */
    private static Polderwardens withRecords() {
        Polderwardens x = new Polderwardens();
        x.storm(1, 2, 16);
        recordOf(x, 30);
        recordOf(x, 0);
        recordOf(x, 30);
        x.storm(3, 2, 1);
        recordOf(x, -30);
        x.endYear();
        recordOf(x, 10);
        return x;
    }

    private static void recordOf(Polderwardens x, int mean) {
        x.setOutside(mean, 0, 0);
        x.run(1);
        x.endYear();
    }

    private static void nextHeight(Check c) {
        c.about("promise 34");
        Polderwardens x = withRecords();
        long[] record = {3000, 1066, 4066, -2934, Long.MIN_VALUE, 1066};
        for (int year = 0; year < record.length; year++) {
            c.due("record(" + year + ")", record[year], x.record(year));
        }
        c.wrong(x, "last 0", () -> x.nextHeight(0, 1));
        c.wrong(x, "last 21", () -> x.nextHeight(21, 1));
        c.wrong(x, "rank 0", () -> x.nextHeight(5, 0));
        c.wrong(x, "rank above last", () -> x.nextHeight(5, 6));
        c.wrong(x, "rank above last, too many", () -> x.nextHeight(20, 21));
        c.notNow(x, "7 of 6 records", () -> x.nextHeight(7, 1));
        c.due("the last one", 61, x.nextHeight(1, 1));
        c.due("the last two", 61, x.nextHeight(2, 1));
        c.notNow(x, "no hour passed in that", () -> x.nextHeight(2, 2));
        c.due("rounded up", 91, x.nextHeight(4, 1));
        c.due("second", 61, x.nextHeight(4, 2));
        c.due("below 0, rounded up", 21, x.nextHeight(4, 3));
        c.notNow(x, "fourth", () -> x.nextHeight(4, 4));
        c.due("of all", 91, x.nextHeight(6, 1));
        c.due("of all, second", 80, x.nextHeight(6, 2));
        c.due("of all, third, rounded up", 61, x.nextHeight(6, 3));
        c.due("of all, fourth, as great", 61, x.nextHeight(6, 4));
        c.due("of all, fifth", 21, x.nextHeight(6, 5));
        c.notNow(x, "of all, sixth", () -> x.nextHeight(6, 6));
        sameRecords(c);
    }

    private static void sameRecords(Check c) {
        Polderwardens x = new Polderwardens();
        recordOf(x, 7);
        recordOf(x, 9);
        recordOf(x, 9);
        recordOf(x, 8);
        c.due("first of the same", 59, x.nextHeight(4, 1));
        c.due("second of the same", 59, x.nextHeight(4, 2));
        c.due("behind the same", 58, x.nextHeight(4, 3));
        c.due("last", 57, x.nextHeight(4, 4));
        x = new Polderwardens();
        x.setOutside(0, 0, 0);
        x.storm(0, 2, 1);
        x.run(1);
        x.endYear();
        c.due("66 up to 1", 51, x.nextHeight(1, 1));
        x.setOutside(-1, 0, 0);
        x.run(1);
        x.endYear();
        c.due("-34 up to 0", 50, x.nextHeight(1, 1));
    }

    private static void shares(Check c) {
        c.about("promise 35");
        Polderwardens x = new Polderwardens();
        c.none(x, "no basin, cost -1", () -> x.share(-1, 0));
        x.addBasin(10, -50);
        c.none(x, "basin 1", () -> x.share(1, 1));
        c.none(x, "basin -1", () -> x.share(1, -1));
        c.none(x, "the sea", () -> x.share(1, 20));
        c.wrong(x, "cost -1", () -> x.share(-1, 0));
        c.wrong(x, "cost 1000000", () -> x.share(1000000, 0));
        c.due("without a dyke", 0, x.share(999999, 0));
        x.addDyke(0, 21, 0, 1, 0);
        c.due("a dyke of the river", 0, x.share(999999, 0));
        x.addDyke(0, 20, 0, 1, 0);
        c.due("alone", 999999, x.share(999999, 0));
        c.due("no cost", 0, x.share(0, 0));
        x.addDyke(20, 0, 0, 1, 0);
        x.addBasin(20, -50);
        x.addDyke(1, 0, 0, 1, 0);
        c.due("a dyke to a basin", 0, x.share(900, 1));
        x.addDyke(1, 20, 0, 1, 0);
        c.due("by the area, two dykes count once", 300, x.share(900, 0));
        c.due("by the area", 600, x.share(900, 1));
        x.addBasin(30, 100);
        x.addDyke(20, 2, 0, 1, 0);
        c.due("as high as mean and range", 0, x.share(900, 2));
        x.setOutside(10, 140, 0);
        // 10 * 200, 20 * 200, 30 * 50: 2000, 4000, 1500
        c.due("by the difference, 0", 2000, x.share(7500, 0));
        c.due("by the difference, 1", 4000, x.share(7500, 1));
        c.due("by the difference, 2", 1500, x.share(7500, 2));
        x.setLand(0, 20, 100, 0);
        x.endYear();
        c.due("sunk, no hour in the year", 2200, x.share(7700, 0));
        x.setOutside(-99, 0, 0);
        c.due("below mean and range are none", 0, x.share(100, 0));
    }

    private static void sharesByRecords(Check c) {
        c.about("promise 35, by records");
        Polderwardens x = new Polderwardens();
        x.addBasin(10, -50);
        x.addBasin(10, 0);
        x.addBasin(10, -51);
        for (int i = 0; i < 3; i++) {
            x.addDyke(i, 20, 999, 999, 0);
        }
        x.run(1);
        c.due("the year goes on, 150 of 401", 1500, x.share(4010, 0));
        x.endYear();
        c.due("the record is -5000", 0, x.share(10, 0));
        c.due("the record is above -51", 10, x.share(10, 2));
        x.storm(1, 2, 25);
        x.run(1);
        // -3400 + 1666 = -1734, down to -18
        x.endYear();
        c.due("rounded down, 32 of 65", 32, x.share(65, 0));
        c.due("rounded down, 0", 0, x.share(65, 1));
        c.due("rounded down, 33 of 65", 33, x.share(65, 2));
        x.setOutside(-99, 0, 0);
        x.run(1);
        x.endYear();
        x.endYear();
        c.due("the greatest one of all", 32, x.share(65, 0));
        x.setOutside(50, 0, 0);
        x.run(1);
        x.endYear();
        c.due("a greater one, 100 of 251", 100, x.share(251, 0));
        c.due("a greater one, 50 of 251", 50, x.share(251, 1));
    }

    private static void rests(Check c) {
        c.about("promise 35, rests");
        Polderwardens x = new Polderwardens();
        x.setOutside(0, 1, 0);
        for (int i = 0; i < 8; i++) {
            x.addBasin(i == 3 ? 2 : 1, 0);
            x.addDyke(20, i, 999, 999, 0);
        }
        // nine parts; of 13 each gets 1 and a rest of 4, the one of two 2 and a rest of 8
        // four are left: 1 to that one, 1 each to the lowest three
        int[] of13 = {2, 2, 2, 3, 1, 1, 1, 1};
        long all = 0;
        for (int i = 0; i < 8; i++) {
            c.due("share of " + i, of13[i], x.share(13, i));
            all += of13[i];
        }
        c.due("all together", 13, all);
        Polderwardens least = new Polderwardens();
        least.setOutside(0, 1, 0);
        least.addBasin(1, 0);
        least.addDyke(0, 20, 999, 999, 0);
        c.due("an area of 1, a difference of 1", 999999, least.share(999999, 0));
        for (int cost = 0; cost < 30; cost++) {
            all = 0;
            for (int i = 0; i < 8; i++) {
                all += x.share(cost, i);
            }
            c.due("all of " + cost, cost, all);
        }
        c.due("1 goes to the greatest rest", 1, x.share(1, 3));
        c.due("1 goes not to the lowest", 0, x.share(1, 0));
        c.due("2 go to it and the lowest", 1, x.share(2, 0));
        c.due("2 go not to the next", 0, x.share(2, 1));
    }
}
