/** Promises 21 to 31, 36 and 37: what there is, and that asking changes nothing. */
final class TellPromises {
    private TellPromises() {
    }

    static void run(Check c) {
        ends(c);
        harmsAndLedger(c);
        digest(c);
        digestAnew(c);
        askingChangesNothing(c);
        apart(c);
    }

    private static void ends(Check c) {
        c.about("promises 21 to 24");
        Polderwardens x = new Polderwardens();
        int[] none = {0, 1, 8, 19, 22, -1, Integer.MAX_VALUE, Integer.MIN_VALUE};
        for (int end : none) {
            c.none(x, "level(" + end + ")", () -> x.level(end));
            c.none(x, "water(" + end + ")", () -> x.water(end));
            c.none(x, "harm(" + end + ")", () -> x.harm(end));
        }
        c.none(x, "water(20)", () -> x.water(20));
        c.none(x, "water(21)", () -> x.water(21));
        x.addBasin(7, -3);
        x.pour(0, 5);
        c.due("level(0), rounded down", -300 + 71, x.level(0));
        c.due("water(0)", 5, x.water(0));
        c.none(x, "level(1)", () -> x.level(1));
        x.setOutside(3, 100, -77);
        x.run(2);
        c.due("hour()", 2, x.hour());
        c.due("the sea of now", 300 - 1700, x.level(20));
        c.due("the river", -77, x.level(21));
        c.due("money()", 0, x.money());
        x.budget(0, 12);
        c.due("money()", 12, x.money());
    }

    private static void harmsAndLedger(Check c) {
        c.about("promises 25 and 26");
        Polderwardens x = new Polderwardens();
        x.setOutside(0, 0, 500);
        x.addBasin(10, 0);
        x.addBasin(10, 0);
        x.setLand(0, 0, 0, 2);
        x.setLand(1, 0, 0, 3);
        x.pour(0, 4);
        x.pour(1, 30);
        x.rain(0, 0, 2, 1);
        x.addGate(21, 0, 9, 0);
        x.addGate(1, 20, 8, 0);
        c.due("gate 0", 0, x.command(0, true, 3));
        c.due("gate 1", 0, x.command(1, true, 0));
        x.run(1);
        // 4 + 1 + 9 = 14 and 30 - 8 = 22 litres: 140 and 220 above the floor
        c.due("harm(0)", 2 * 3, x.harm(0));
        c.due("harm(1)", 3 * 5, x.harm(1));
        x.run(1);
        // 24 and 14 litres
        c.due("harm(0)", 6 + 2 * 5, x.harm(0));
        c.due("harm(1)", 15 + 3 * 3, x.harm(1));
        c.due("ledger(0)", 34, x.ledger(0));
        c.due("ledger(1)", 2, x.ledger(1));
        c.due("ledger(2)", 18, x.ledger(2));
        c.due("ledger(3)", 16, x.ledger(3));
        c.due("to the last litre", 34 + 2 + 18 - 16, x.water(0) + x.water(1));
    }

    private static long sum(long... numbers) {
        long sum = 7;
        for (long number : numbers) {
            sum = 31 * sum + number;
        }
        return sum;
    }

    private static void digest(Check c) {
        c.about("promise 36");
        Polderwardens x = new Polderwardens();
        x.setOutside(0, 0, 0);
        x.budget(3, 40);
        c.due("money", sum(0, 40), x.digest());
        x.addBasin(10, 5);
        x.addBasin(10, -2);
        x.pour(0, 70);
        c.due("basins", sum(0, 40, 70, 1200, 0, 0, -200, 0), x.digest());
        x.addPump(0, 1, 6, 0, 9);
        x.addPump(1, 0, 6, 0, 9);
        x.drive(0, true, 8);
        x.drive(1, false, 2);
        c.due("pumps", sum(0, 30, 70, 1200, 0, 0, -200, 0, 8, 0, 2, 0), x.digest());
        x.addDyke(0, 20, 90, 20, 0);
        x.addDyke(1, 21, 80, 10, 0);
        c.due("dykes ahead of pumps",
                sum(0, 30, 70, 1200, 0, 0, -200, 0, 90, 0, 0, 80, 0, 0, 8, 0, 2, 0), x.digest());
        x.setLand(0, 1, 0, 4);
        x.addGate(0, 1, 1, 0);
        x.run(2);
        // 1140 and -140; then 1080 and -80: damage of 11 and 10, of 1 and none
        c.due("two hours",
                sum(2, 30, 58, 1080, 80, 12, -80, 0, 90, 21, 1, 80, 0, 0, 6, 2, 2, 0), x.digest());
        x.endYear();
        c.due("a year",
                sum(2, 33, 58, 980, 80, 12, -80, 0, 90, 21, 1, 80, 0, 0, 6, 2, 2, 0), x.digest());
        c.due("anew", x.digest(), x.digestAnew());
        rounds(c);
    }

    private static void rounds(Check c) {
        Polderwardens x = new Polderwardens();
        long[] numbers = new long[26];
        for (int i = 0; i < 8; i++) {
            x.addBasin(1, 500);
            x.pour(i, 1000000);
            numbers[2 + 3 * i] = 1000000;
            numbers[3 + 3 * i] = 100050000;
        }
        c.due("going round", sum(numbers), x.digest());
        c.due("going round, anew", sum(numbers), x.digestAnew());
        eightOfEach(c);
    }

    private static void eightOfEach(Check c) {
        Polderwardens x = new Polderwardens();
        long[] numbers = new long[2 + 8 * 8];
        x.budget(0, 100);
        numbers[1] = 100 - 28;
        for (int i = 0; i < 8; i++) {
            x.addBasin(1, i);
            x.pour(i, 10 + i);
            x.addDyke(i, 20, 50 + i, 9, 0);
            x.addPump(i, 20, 1, 0, 1);
            x.drive(i, false, i);
            numbers[2 + 3 * i] = 10 + i;
            numbers[3 + 3 * i] = 100 * i + 100 * (10 + i);
            numbers[26 + 3 * i] = 50 + i;
            numbers[50 + 2 * i] = i;
        }
        c.due("eight of each", sum(numbers), x.digest());
        c.due("eight of each, anew", sum(numbers), x.digestAnew());
    }

    /** Each kind of call, with a digest anew behind it. */
    private static void digestAnew(Check c) {
        c.about("promise 37");
        Polderwardens x = new Polderwardens();
        c.due("a new object", x.digest(), x.digestAnew());
        x.setOutside(20, 60, 900);
        x.addBasin(20, -30);
        x.addBasin(30, -20);
        x.addBasin(5, 3);
        x.setLand(0, 2, 50, 9);
        x.setLand(1, 1, 150, 4);
        x.pour(1, 77);
        x.road(0, 1, true);
        x.road(1, 2, true);
        x.road(0, 1, false);
        x.road(0, 1, true);
        same(c, x, "land");
        x.addGate(0, 1, 40, 2);
        x.addGate(20, 1, 40, 0);
        x.addPump(1, 20, 15, 80, 7);
        x.addDyke(20, 0, 30, 250, 12);
        x.addDyke(1, 2, 40, 90, 7);
        x.addDyke(2, 21, 1, 5, 0);
        x.storm(3, 9, 44);
        x.rain(0, 2, 30, 9);
        x.rain(1, 0, 3, 150);
        same(c, x, "ways and rains");
        x.budget(500, 900);
        x.drive(0, true, 30);
        x.command(0, true, 1);
        x.command(0, true, 3);
        x.command(1, true, 3);
        x.send(1, 1, 4);
        x.send(2, 2, 0);
        x.raise(0, 7, 2);
        same(c, x, "commands");
        x.run(20);
        same(c, x, "hours");
        x.mend(0);
        x.setSeed(77);
        x.endYear();
        x.run(3);
        x.endYear();
        c.due("a work that is done", 37, x.dyke(0, 0));
        x.send(1, -1, 0);
        x.run(7);
        same(c, x, "years");
        c.wrong(x, "a call that throws", () -> x.pour(0, -1));
        c.none(x, "another one", () -> x.drive(1, true, 1));
        x.raise(2, 99, 9);
        c.notNow(x, "a third", () -> x.raise(2, 99, 9));
        same(c, x, "calls that throw");
        c.due("again", x.digest(), x.digestAnew());
        x.run(1);
        same(c, x, "an hour more");
        manyCalls(c);
    }

    private static void same(Check c, Polderwardens x, String behind) {
        c.due("digestAnew() behind " + behind, x.digest(), x.digestAnew());
    }

    private static void manyCalls(Check c) {
        Polderwardens x = new Polderwardens();
        x.addBasin(1, 0);
        for (int i = 0; i < 509; i++) {
            x.pour(0, i);
        }
        c.due("behind 510 calls, by the 512th", x.digest(), x.digestAnew());
        // what later calls answer is free, but none may fail in the machine
        for (int i = 0; i < 200; i++) {
            x.pour(0, 1);
            x.digestAnew();
        }
        c.due("behind many calls", 509 * 508 / 2 + 200, x.water(0));
    }

    private static void askingChangesNothing(Check c) {
        c.about("asking changes nothing");
        Polderwardens x = new Polderwardens();
        x.addBasin(20, -30);
        x.addBasin(20, 1);
        x.setLand(0, 1, 30, 2);
        x.addGate(0, 20, 9, 0);
        x.addPump(0, 20, 9, 99, 9);
        x.addDyke(0, 20, 9, 99, 9);
        x.run(3);
        x.endYear();
        String before = Picture.of(x);
        x.digestAnew();
        x.nextHeight(1, 1);
        c.holds("a picture is as the one before", before.equals(Picture.of(x)));
    }

    private static void apart(Check c) {
        c.about("objects are apart");
        Polderwardens one = new Polderwardens();
        Polderwardens other = new Polderwardens();
        String before = Picture.of(other);
        one.addBasin(1, 1);
        one.setOutside(9, 9, 9);
        one.budget(9, 9);
        one.send(0, -1, 3);
        one.setSeed(9);
        one.storm(0, 9, 9);
        one.run(2);
        c.holds("another object is as it was", before.equals(Picture.of(other)));
    }
}
