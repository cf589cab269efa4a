/** Promises 1 to 5: a new object, basins, their land, water poured, roads. */
final class LandPromises {
    private LandPromises() {
    }

    static void run(Check c) {
        newObject(c);
        addBasin(c);
        floorAtFirst(c);
        setLand(c);
        pour(c);
        road(c);
    }

    private static void newObject(Check c) {
        c.about("promise 1");
        Polderwardens x = new Polderwardens();
        c.due("hour()", 0, x.hour());
        c.due("money()", 0, x.money());
        c.due("level(20), low tide", -5000, x.level(20));
        c.due("level(21)", 0, x.level(21));
        c.due("digest()", (7 * 31) * 31, x.digest());
        c.none(x, "water(0)", () -> x.water(0));
        c.none(x, "isOpen(0)", () -> x.isOpen(0));
        c.none(x, "pump(0, 0)", () -> x.pump(0, 0));
        c.none(x, "dyke(0, 0)", () -> x.dyke(0, 0));
        c.none(x, "record(0)", () -> x.record(0));
        for (int crew = 0; crew < 3; crew++) {
            c.due("basin of crew " + crew, 0, x.crew(crew, 0));
            c.due("sandbags of crew " + crew, 10, x.crew(crew, 1));
            c.due("dyke of crew " + crew, -1, x.crew(crew, 2));
        }
        c.due("setSeed(5)", 1, x.setSeed(5));
        c.due("storm", 1, x.storm(0, 1, 1));
        c.due("endYear()", 1, x.endYear());
        Polderwardens other = new Polderwardens();
        c.due("hour() of another", 0, other.hour());
        c.due("sea of another", -5000, other.sea(0));
    }

    private static void addBasin(Check c) {
        c.about("promise 2");
        Polderwardens x = new Polderwardens();
        c.wrong(x, "area 0", () -> x.addBasin(0, 0));
        c.wrong(x, "area 101", () -> x.addBasin(101, 0));
        c.wrong(x, "area least", () -> x.addBasin(Integer.MIN_VALUE, 0));
        c.wrong(x, "ground -501", () -> x.addBasin(1, -501));
        c.wrong(x, "ground 501", () -> x.addBasin(1, 501));
        c.due("first", 0, x.addBasin(1, -500));
        c.due("second", 1, x.addBasin(100, 500));
        c.due("level(0)", -50000, x.level(0));
        c.due("level(1)", 50000, x.level(1));
        c.due("water(0)", 0, x.water(0));
        for (int i = 2; i < 8; i++) {
            c.due("basin " + i, i, x.addBasin(10, i));
        }
        c.notNow(x, "a ninth", () -> x.addBasin(10, 0));
        c.wrong(x, "a ninth without area", () -> x.addBasin(0, 0));
        x.pour(0, 1000);
        x.run(1);
        c.due("harm without worth", 0, x.harm(0));
        x.endYear();
        c.due("level(1) does not sink", 50000, x.level(1));
    }

    /** The floor at first, 100 above the ground, shows by the roads: they are cut at 200. */
    private static void floorAtFirst(Check c) {
        c.about("promise 2, floor");
        for (int litres = 199; litres <= 200; litres++) {
            Polderwardens x = new Polderwardens();
            x.setOutside(0, 0, 0);
            x.addBasin(100, 0);
            x.addBasin(100, 0);
            x.road(0, 1, true);
            x.addDyke(1, 20, 999, 999, 0);
            x.pour(1, litres);
            x.send(0, 0, 0);
            x.run(1);
            c.due("crew behind " + litres, litres == 199 ? 1 : 0, x.crew(0, 0));
        }
    }

    private static void setLand(Check c) {
        c.about("promise 3");
        Polderwardens x = new Polderwardens();
        c.none(x, "no basin", () -> x.setLand(0, 0, 0, 0));
        x.addBasin(10, 0);
        x.addBasin(10, 0);
        c.none(x, "basin -1, all wrong", () -> x.setLand(-1, 21, -1, 100));
        c.none(x, "basin 2", () -> x.setLand(2, 0, 0, 0));
        c.none(x, "basin 20", () -> x.setLand(20, 0, 0, 0));
        c.wrong(x, "sinks -1", () -> x.setLand(0, -1, 0, 0));
        c.wrong(x, "sinks 21", () -> x.setLand(0, 21, 0, 0));
        c.wrong(x, "floor -1", () -> x.setLand(0, 0, -1, 0));
        c.wrong(x, "floor 10000", () -> x.setLand(0, 0, 10000, 0));
        c.wrong(x, "worth -1", () -> x.setLand(0, 0, 0, -1));
        c.wrong(x, "worth 100", () -> x.setLand(0, 0, 0, 100));
        x.setLand(0, 20, 9999, 99);
        x.setLand(1, 0, 0, 1);
        x.pour(0, 1000);
        x.pour(1, 1);
        x.run(1);
        c.due("harm(0), 1 above the floor", 99, x.harm(0));
        c.due("harm(1), 10 above the floor", 1, x.harm(1));
        x.endYear();
        c.due("level(0) sinks by 20", 8000, x.level(0));
        c.due("level(1) does not", 10, x.level(1));
        x.setLand(0, 3, 0, 0);
        x.endYear();
        c.due("level(0) sinks by 3", 7700, x.level(0));
        x.run(1);
        c.due("harm(0) without worth", 99, x.harm(0));
    }

    private static void pour(Check c) {
        c.about("promise 4");
        Polderwardens x = new Polderwardens();
        c.none(x, "no basin, too many litres", () -> x.pour(0, 1000001));
        x.addBasin(3, -2);
        c.none(x, "basin -1", () -> x.pour(-1, 1));
        c.none(x, "the sea", () -> x.pour(20, 1));
        c.wrong(x, "litres -1", () -> x.pour(0, -1));
        c.wrong(x, "litres 1000001", () -> x.pour(0, 1000001));
        c.due("pour 0", 0, x.pour(0, 0));
        c.due("pour 10", 10, x.pour(0, 10));
        c.due("level(0)", -200 + 333, x.level(0));
        c.due("pour 1000000", 1000010, x.pour(0, 1000000));
        c.due("water(0)", 1000010, x.water(0));
        c.due("ledger(0)", 1000010, x.ledger(0));
        for (int i = 0; i < 250; i++) {
            x.pour(0, 1000000);
        }
        c.due("water beyond", 251000010, x.water(0));
        c.due("level beyond", -200 + 100L * 251000010 / 3, x.level(0));
    }

    private static void road(Check c) {
        c.about("promise 5");
        Polderwardens x = new Polderwardens();
        c.none(x, "no basins, the same", () -> x.road(0, 0, true));
        x.addBasin(1, 0);
        c.none(x, "other 1", () -> x.road(0, 1, true));
        c.none(x, "basin 1", () -> x.road(1, 0, true));
        c.none(x, "other 20", () -> x.road(0, 20, true));
        c.none(x, "other -1", () -> x.road(0, -1, true));
        c.wrong(x, "the same", () -> x.road(0, 0, true));
        x.addBasin(1, 0);
        x.addBasin(1, 0);
        c.due("take away none", false, x.road(0, 1, false));
        c.due("make", false, x.road(0, 1, true));
        c.due("make again, the other way round", true, x.road(1, 0, true));
        c.due("another", false, x.road(1, 2, true));
        c.due("take away", true, x.road(1, 0, false));
        c.due("was taken away", false, x.road(0, 1, false));
        c.due("the other one stays", true, x.road(2, 1, true));
    }
}
