/** Promises 9 to 12, and 31 and 32, which tell of them: sea, river, storms, rains, forecasts. */
final class OutsidePromises {
    private OutsidePromises() {
    }

    static void run(Check c) {
        setOutside(c);
        tides(c);
        storm(c);
        surges(c);
        rain(c);
        seeds(c);
        forecast(c);
    }

    private static void setOutside(Check c) {
        c.about("promise 9");
        Polderwardens x = new Polderwardens();
        c.wrong(x, "mean -100", () -> x.setOutside(-100, 0, 0));
        c.wrong(x, "mean 100", () -> x.setOutside(100, 0, 0));
        c.wrong(x, "range -1", () -> x.setOutside(0, -1, 0));
        c.wrong(x, "range 401", () -> x.setOutside(0, 401, 0));
        c.wrong(x, "river -10000", () -> x.setOutside(0, 0, -10000));
        c.wrong(x, "river 100000", () -> x.setOutside(0, 0, 100000));
        x.setOutside(99, 400, 99999);
        c.due("river", 99999, x.level(21));
        c.due("low tide", 9900 - 20000, x.level(20));
        c.due("high tide", 9900 + 20000, x.sea(6));
        x.setOutside(-99, 0, -9999);
        c.due("river", -9999, x.level(21));
        c.due("no tide", -9900, x.level(20));
        x.run(1);
        x.setOutside(0, 60, 0);
        c.due("the tide goes on by the hour", 100 * (10 - 30), x.level(20));
    }

    private static void tides(Check c) {
        c.about("promise 31, tides");
        Polderwardens x = new Polderwardens();
        c.wrong(x, "hour -1", () -> x.sea(-1));
        c.wrong(x, "hour 10000", () -> x.sea(10000));
        x.setOutside(0, 7, 0);
        // 7 times p, divided by 6: 0 1 2 3 4 5 7, less 3
        int[] tide = {-3, -2, -1, 0, 1, 2, 4, 2, 1, 0, -1, -2};
        for (int hour = 0; hour < 36; hour++) {
            c.due("sea(" + hour + ")", 100 * tide[hour % 12], x.sea(hour));
        }
        c.due("sea(9999)", 100 * tide[3], x.sea(9999));
    }

    private static void storm(Check c) {
        c.about("promise 10");
        Polderwardens x = new Polderwardens();
        c.wrong(x, "begin -1", () -> x.storm(-1, 1, 1));
        c.wrong(x, "begin 10000", () -> x.storm(10000, 1, 1));
        c.wrong(x, "length 0", () -> x.storm(0, 0, 1));
        c.wrong(x, "length 100", () -> x.storm(0, 100, 1));
        c.wrong(x, "peak 0", () -> x.storm(0, 1, 0));
        c.wrong(x, "peak 501", () -> x.storm(0, 1, 501));
        c.due("first", 1, x.storm(0, 1, 1));
        c.due("second", 2, x.storm(9999, 99, 500));
        for (int i = 3; i <= 12; i++) {
            c.due("storm " + i, i, x.storm(5, 5, 5));
        }
        c.notNow(x, "a thirteenth", () -> x.storm(0, 1, 1));
        c.wrong(x, "a thirteenth without length", () -> x.storm(0, 0, 1));
    }

    private static void surges(Check c) {
        c.about("promise 10, surges");
        Polderwardens x = new Polderwardens();
        x.setOutside(0, 0, 0);
        x.storm(10, 4, 7);
        // 700 times 1, 2, 2, 1, times 2, divided by 5
        long[] surge = {0, 280, 560, 560, 280, 0};
        for (int i = 0; i < surge.length; i++) {
            c.due("sea(" + (9 + i) + ")", surge[i], x.sea(9 + i));
        }
        x.storm(11, 1, 3);
        x.storm(12, 1, 6);
        c.due("the lesser one counts not", 560, x.sea(11));
        c.due("the greater one counts", 600, x.sea(12));
        x.storm(20, 2, 1);
        c.due("rounded down, first hour", 66, x.sea(20));
        c.due("rounded down, last hour", 66, x.sea(21));
        c.due("over", 0, x.sea(22));
        x.run(12);
        c.due("the sea now", 600, x.level(20));
        c.due("the sea ahead of now", 280, x.sea(10));
        x.storm(2, 1, 9);
        c.due("a storm that is over", 900, x.sea(2));
    }

    private static void rain(Check c) {
        c.about("promise 11");
        Polderwardens x = new Polderwardens();
        c.none(x, "no basin, all wrong", () -> x.rain(0, -1, 0, 0));
        x.addBasin(10, 0);
        x.addBasin(10, 0);
        c.none(x, "the sea", () -> x.rain(20, 0, 1, 1));
        c.wrong(x, "begin -1", () -> x.rain(0, -1, 1, 1));
        c.wrong(x, "begin 10000", () -> x.rain(0, 10000, 1, 1));
        c.wrong(x, "length 0", () -> x.rain(0, 0, 0, 1));
        c.wrong(x, "length 100", () -> x.rain(0, 0, 100, 1));
        c.wrong(x, "litres 0", () -> x.rain(0, 0, 1, 0));
        c.wrong(x, "litres 10000", () -> x.rain(0, 0, 1, 10000));
        c.due("first", 1, x.rain(0, 1, 2, 5));
        c.due("second", 2, x.rain(1, 0, 99, 9999));
        c.due("third", 3, x.rain(0, 2, 1, 100));
        long[] water = {0, 5, 110, 110};
        for (int hour = 0; hour < water.length; hour++) {
            x.run(1);
            c.due("water(0) behind hour " + hour, water[hour], x.water(0));
        }
        c.due("water(1)", 4 * 9999, x.water(1));
        c.due("ledger(1)", 110 + 4 * 9999, x.ledger(1));
        c.due("ledger(0)", 0, x.ledger(0));
        c.due("a rain that is over", 4, x.rain(0, 0, 4, 7));
        x.run(1);
        c.due("brings none", 110, x.water(0));
        c.due("a rain that goes", 5, x.rain(0, 0, 6, 7));
        x.run(2);
        c.due("brings what is left", 117, x.water(0));
        for (int i = 6; i <= 12; i++) {
            c.due("rain " + i, i, x.rain(1, 9999, 99, 1));
        }
        c.notNow(x, "a thirteenth", () -> x.rain(0, 0, 1, 1));
        c.wrong(x, "a thirteenth without litres", () -> x.rain(0, 0, 1, 0));
        c.none(x, "a thirteenth without basin", () -> x.rain(2, 0, 1, 0));
        c.due("a storm all the same", 1, x.storm(0, 1, 1));
        x.run(50);
        x.run(50);
        c.due("rains that end", 99 * 9999, x.water(1));
    }

    private static void seeds(Check c) {
        c.about("promise 12");
        Polderwardens x = new Polderwardens();
        c.wrong(x, "seed -1", () -> x.setSeed(-1));
        c.wrong(x, "seed 10000", () -> x.setSeed(10000));
        c.due("setSeed(0)", 1, x.setSeed(0));
        c.due("setSeed(9999)", 0, x.setSeed(9999));
        c.due("setSeed(3)", 9999, x.setSeed(3));
    }

    private static void forecast(Check c) {
        c.about("promise 32");
        Polderwardens x = new Polderwardens();
        c.wrong(x, "ahead 0", () -> x.forecast(0));
        c.wrong(x, "ahead 49", () -> x.forecast(49));
        // 1009 + 1 = 1010, by 3 rests 2, less 1
        c.due("forecast(1)", -3400 + 10, x.forecast(1));
        // 48432 + 1, by 97 rests 30, less 48
        c.due("forecast(48)", -5000 - 180, x.forecast(48));
        x.setOutside(0, 0, 0);
        x.setSeed(9999);
        // 48432 + 9999 = 58431, by 97 rests 37, less 48
        c.due("seed 9999", -110, x.forecast(48));
        for (int i = 0; i < 20; i++) {
            x.run(50);
        }
        // 75000 + 5 * 1009 + 9999 = 90044, less 65537 = 24507, by 11 rests 10, less 5
        c.due("behind 65537", 50, x.forecast(5));
        x.storm(1005, 1, 4);
        c.due("with a storm", 450, x.forecast(5));
        // 91053, less 65537 = 25516, by 13 rests 10, less 6
        c.due("ahead of the storm's end", 40, x.forecast(6));
        for (int i = 0; i < 179; i++) {
            x.run(50);
        }
        x.run(49);
        c.due("the last hour", 9999, x.hour());
        // 749925 + 1009 + 9999 = 760933, less 11 times 65537 = 40026, by 3 rests 0, less 1
        c.due("beyond the last hour", -10, x.forecast(1));
    }
}
