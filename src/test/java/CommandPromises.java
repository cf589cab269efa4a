/** Promises 13 to 18: what is commanded, and 22, 27, 28 and 30, which tell of it. */
final class CommandPromises {
    private CommandPromises() {
    }

    static void run(Check c) {
        ranks(c);
        seaHigher(c);
        lowerWithWorth(c);
        drive(c);
        mend(c);
        send(c);
        budget(c);
        raise(c);
    }

    /** Without tides; all levels outside are 0. */
    private static Polderwardens still() {
        Polderwardens x = new Polderwardens();
        x.setOutside(0, 0, 0);
        return x;
    }

    private static void ranks(Check c) {
        c.about("promise 13, ranks");
        Polderwardens x = still();
        c.none(x, "no gate, rank 4", () -> x.command(0, true, 4));
        x.addBasin(10, 0);
        x.addBasin(10, 0);
        for (int rank = 0; rank <= 3; rank++) {
            x.addGate(0, 1, 1, rank);
        }
        c.none(x, "gate 4", () -> x.command(4, true, 0));
        c.none(x, "gate -1", () -> x.command(-1, true, 0));
        c.none(x, "isOpen(4)", () -> x.isOpen(4));
        c.none(x, "isOpen(-1)", () -> x.isOpen(-1));
        c.wrong(x, "rank -1", () -> x.command(0, true, -1));
        c.wrong(x, "rank 4", () -> x.command(0, true, 4));
        for (int gate = 0; gate <= 3; gate++) {
            for (int rank = 0; rank <= 3; rank++) {
                int want = rank < gate ? 1 : 0;
                c.due("open " + gate + " by " + rank, want, x.command(gate, true, rank));
                c.due("isOpen", want == 0, x.isOpen(gate));
                c.due("shut " + gate + " by " + rank, want, x.command(gate, false, rank));
                c.due("isOpen", false, x.isOpen(gate));
            }
        }
        x.command(3, true, 3);
        c.due("shut by 2", 1, x.command(3, false, 2));
        c.due("still open", true, x.isOpen(3));
    }

    private static void seaHigher(Check c) {
        c.about("promise 13, the sea");
        Polderwardens x = still();
        x.addBasin(10, 1);
        x.setLand(0, 0, 100, 5);
        x.addGate(0, 20, 5, 1);
        x.addGate(20, 0, 5, 0);
        x.addGate(0, 21, 5, 0);
        x.setOutside(2, 0, 999);
        c.due("rank comes first", 1, x.command(0, true, 0));
        c.due("the sea comes next", 2, x.command(0, true, 1));
        c.due("by any rank", 2, x.command(0, true, 3));
        c.due("the other way round", 2, x.command(1, true, 3));
        c.due("to be shut", 0, x.command(0, false, 1));
        c.due("the river is higher", 3, x.command(2, true, 2));
        c.due("the river, rank 3", 0, x.command(2, true, 3));
        x.setOutside(1, 0, 0);
        c.due("as high", 0, x.command(0, true, 1));
        x.setOutside(0, 0, 0);
        c.due("lower", 0, x.command(1, true, 0));
        x.setOutside(2, 0, 0);
        c.due("open already", 2, x.command(0, true, 3));
        c.due("stays open", true, x.isOpen(0));
        x.setOutside(0, 4, 0);
        x.run(6);
        c.due("by the tide of now", 2, x.command(1, true, 3));
        byAHundredth(c);
    }

    private static void byAHundredth(Check c) {
        Polderwardens x = still();
        x.addBasin(100, 0);
        x.pour(0, 100);
        x.addGate(0, 20, 1, 0);
        x.addGate(20, 0, 1, 0);
        x.setOutside(1, 0, 0);
        c.due("as high", 0, x.command(0, true, 0));
        c.due("as high, the other way round", 0, x.command(1, true, 0));
        x.setOutside(0, 0, 0);
        x.run(1);
        c.due("two gates, a litre each", 98, x.water(0));
        x.pour(0, 1);
        x.setOutside(1, 0, 0);
        c.due("higher by a hundredth", 2, x.command(0, true, 3));
        c.due("higher by a hundredth, the other way round", 2, x.command(1, true, 3));
        x.run(1);
        c.due("shut by a hundredth", false, x.isOpen(0));
        c.due("shut by a hundredth, the other way round", false, x.isOpen(1));
        c.due("nothing came", 99, x.water(0));
    }

    private static void lowerWithWorth(Check c) {
        c.about("promise 13, worth");
        Polderwardens x = still();
        x.addBasin(10, 5);
        x.addBasin(10, 4);
        x.addGate(0, 1, 1, 0);
        x.addGate(1, 0, 1, 0);
        x.addGate(1, 20, 1, 0);
        x.addGate(1, 21, 1, 0);
        x.setLand(0, 0, 0, 9);
        c.due("the higher one has worth", 0, x.command(0, true, 0));
        c.due("the lower end is the sea", 0, x.command(2, true, 0));
        x.setLand(1, 0, 0, 1);
        for (int rank = 0; rank <= 2; rank++) {
            c.due("the second is lower", 3, x.command(0, true, rank));
            c.due("the first is lower", 3, x.command(1, true, rank));
        }
        c.due("to be shut", 0, x.command(0, false, 0));
        c.due("by rank 3", 0, x.command(0, true, 3));
        x.setOutside(0, 0, 401);
        c.due("lower than the river", 3, x.command(3, true, 2));
        x.setOutside(0, 0, 400);
        c.due("as high as the river", 0, x.command(3, true, 0));
        x.pour(1, 10);
        c.due("none is lower", 0, x.command(1, true, 0));
        x.pour(1, 10);
        c.due("the lower one is the other", 3, x.command(1, true, 0));
    }

    private static void drive(Check c) {
        c.about("promise 14");
        Polderwardens x = still();
        c.none(x, "no pump, fuel 100", () -> x.drive(0, true, 100));
        x.addBasin(10, 0);
        x.addPump(0, 20, 1, 0, 1);
        x.addPump(0, 20, 1, 0, 1);
        c.none(x, "pump 2", () -> x.drive(2, true, 0));
        c.none(x, "pump -1", () -> x.drive(-1, true, 0));
        c.wrong(x, "fuel -1", () -> x.drive(0, true, -1));
        c.wrong(x, "fuel 100", () -> x.drive(0, true, 100));
        c.notNow(x, "no money", () -> x.drive(0, true, 1));
        c.due("no fuel", 0, x.drive(0, true, 0));
        c.due("is on", 1, x.pump(0, 0));
        x.budget(0, 150);
        c.due("99", 99, x.drive(1, false, 99));
        c.due("is off", 0, x.pump(1, 0));
        c.due("money", 51, x.money());
        c.notNow(x, "52", () -> x.drive(1, true, 52));
        c.due("51", 150, x.drive(1, true, 51));
        c.due("money", 0, x.money());
        c.due("is on now", 1, x.pump(1, 0));
        c.due("its fuel", 150, x.pump(1, 1));
        c.due("switched off", 150, x.drive(1, false, 0));
        c.due("is off again", 0, x.pump(1, 0));
        c.due("the other one is on", 1, x.pump(0, 0));
        c.none(x, "pump(2, 3)", () -> x.pump(2, 3));
        c.none(x, "pump(-1, 0)", () -> x.pump(-1, 0));
        c.wrong(x, "pump(0, -1)", () -> x.pump(0, -1));
        c.wrong(x, "pump(0, 3)", () -> x.pump(0, 3));
    }

    private static void mend(Check c) {
        c.about("promise 15");
        Polderwardens x = still();
        c.none(x, "no pump, no money", () -> x.mend(0));
        x.addBasin(10, 5);
        x.pour(0, 100);
        x.addPump(0, 20, 1, 0, 3);
        c.none(x, "pump -1", () -> x.mend(-1));
        c.none(x, "pump 1", () -> x.mend(1));
        x.budget(0, 49);
        x.drive(0, true, 10);
        x.run(5);
        c.due("worn out", 3, x.pump(0, 2));
        c.due("fuel is kept", 7, x.pump(0, 1));
        c.due("water is kept", 97, x.water(0));
        c.due("mend", 3, x.mend(0));
        c.due("wear", 0, x.pump(0, 2));
        c.due("money", 19, x.money());
        c.notNow(x, "19", () -> x.mend(0));
        x.budget(0, 1);
        c.due("mend one without wear", 0, x.mend(0));
        c.due("money", 0, x.money());
        x.run(2);
        c.due("works again", 95, x.water(0));
    }

    private static void send(Check c) {
        c.about("promise 16");
        Polderwardens x = still();
        c.none(x, "no dyke, bags 100", () -> x.send(0, 0, 100));
        c.due("called off without any dyke", 10, x.send(0, -1, 0));
        x.addBasin(10, 0);
        x.addDyke(0, 20, 0, 1, 0);
        c.none(x, "crew -1", () -> x.send(-1, 0, 0));
        c.none(x, "crew 3", () -> x.send(3, 0, 0));
        c.none(x, "dyke 1", () -> x.send(0, 1, 0));
        c.none(x, "dyke -2", () -> x.send(0, -2, 0));
        c.wrong(x, "bags -1", () -> x.send(0, 0, -1));
        c.wrong(x, "bags 100", () -> x.send(0, -1, 100));
        c.notNow(x, "no money", () -> x.send(0, 0, 1));
        x.budget(0, 100);
        c.due("99 more", 109, x.send(2, 0, 99));
        c.due("money", 1, x.money());
        c.notNow(x, "2 more", () -> x.send(2, -1, 2));
        c.due("1 more, called off", 110, x.send(2, -1, 1));
        c.due("money", 0, x.money());
        c.due("its basin", 0, x.crew(2, 0));
        c.due("its sandbags", 110, x.crew(2, 1));
        c.due("its dyke", -1, x.crew(2, 2));
        c.due("sent again", 110, x.send(2, 0, 0));
        c.due("its dyke", 0, x.crew(2, 2));
        c.due("the others", -1, x.crew(1, 2));
        c.none(x, "crew(3, 3)", () -> x.crew(3, 3));
        c.none(x, "crew(-1, 0)", () -> x.crew(-1, 0));
        c.wrong(x, "crew(0, 3)", () -> x.crew(0, 3));
        c.wrong(x, "crew(0, -1)", () -> x.crew(0, -1));
    }

    private static void budget(Check c) {
        c.about("promise 17");
        Polderwardens x = still();
        c.wrong(x, "yearly -1", () -> x.budget(-1, 0));
        c.wrong(x, "yearly 10000", () -> x.budget(10000, 0));
        c.wrong(x, "now -1", () -> x.budget(0, -1));
        c.wrong(x, "now 10000", () -> x.budget(0, 10000));
        c.due("now", 9999, x.budget(9999, 9999));
        x.endYear();
        c.due("money", 19998, x.money());
        c.due("more now", 20003, x.budget(7, 5));
        x.endYear();
        x.endYear();
        c.due("money", 20017, x.money());
        c.due("none any more", 20017, x.budget(0, 0));
        x.endYear();
        c.due("money", 20017, x.money());
    }

    private static void raise(Check c) {
        c.about("promise 18");
        Polderwardens x = still();
        c.none(x, "no dyke, all wrong", () -> x.raise(0, 0, 0));
        x.addBasin(10, 0);
        x.addDyke(0, 20, 999, 999, 0);
        x.addDyke(0, 20, -500, 999, 0);
        c.none(x, "dyke 2", () -> x.raise(2, 1, 1));
        c.none(x, "dyke -1", () -> x.raise(-1, 1, 1));
        c.wrong(x, "by 0", () -> x.raise(0, 0, 1));
        c.wrong(x, "by 100", () -> x.raise(0, 100, 1));
        c.wrong(x, "years 0", () -> x.raise(0, 1, 0));
        c.wrong(x, "years 10", () -> x.raise(0, 1, 10));
        c.notNow(x, "no money", () -> x.raise(0, 1, 1));
        x.budget(0, 1100);
        c.due("99 in 9 years", 110, x.raise(0, 99, 9));
        c.notNow(x, "12", () -> x.raise(0, 12, 1));
        c.due("1 in 1 year", 100, x.raise(1, 1, 1));
        for (int i = 0; i < 4; i++) {
            c.due("2 in 2 years", 80 - 20 * i, x.raise(1, 2, 2));
        }
        c.notNow(x, "a seventh", () -> x.raise(1, 1, 1));
        c.due("no crest yet", -500, x.dyke(1, 0));
        x.endYear();
        c.due("1 more", -499, x.dyke(1, 0));
        c.due("room for another", 10, x.raise(1, 1, 3));
        c.notNow(x, "a seventh again", () -> x.raise(1, 1, 1));
        x.endYear();
        c.due("8 more", -491, x.dyke(1, 0));
        c.due("room again", 0, x.raise(1, 1, 1));
        x.endYear();
        c.due("1 more", -490, x.dyke(1, 0));
        x.endYear();
        c.due("1 more", -489, x.dyke(1, 0));
        for (int year = 4; year < 8; year++) {
            x.endYear();
        }
        c.due("not yet", 999, x.dyke(0, 0));
        x.endYear();
        c.due("beyond 999", 1098, x.dyke(0, 0));
        x.endYear();
        c.due("once alone", 1098, x.dyke(0, 0));
    }
}
