/** Lands that the tests of edges begin with. */
final class Lands {
    private Lands() {
    }

    /** Four basins, three gates, pumps and dykes, money, twenty years with an hour each; room for more. */
    static Polderwardens roomy() {
        Polderwardens x = new Polderwardens();
        for (int i = 0; i < 4; i++) {
            x.addBasin(10 + i, i);
            x.setLand(i, 0, 100, i);
        }
        for (int i = 0; i < 3; i++) {
            x.addGate(i, 21, 10, i);
            x.addPump(i, i + 1, 10, 99, 99);
            x.addDyke(20, i, 90, 900, 9);
            x.road(i, i + 1, true);
        }
        x.budget(5, 3000);
        for (int year = 0; year < 20; year++) {
            x.run(1);
            x.endYear();
        }
        return x;
    }

    /** Eight of each thing, twelve storms and rains, six works, no money. */
    static Polderwardens crowded() {
        Polderwardens x = new Polderwardens();
        for (int i = 0; i < 8; i++) {
            x.addBasin(10 + i, i);
            x.setLand(i, i, 50, i);
        }
        x.budget(0, 79);
        for (int i = 0; i < 8; i++) {
            x.addGate(i, i % 2 == 0 ? 20 : 21, 10, i % 4);
            x.addPump(i, (i + 1) % 8, 10, 99, 99);
            x.addDyke(i % 2 == 0 ? 20 : 21, i, 5, 90, 9);
            x.road(i, (i + 1) % 8, true);
        }
        for (int i = 0; i < 12; i++) {
            x.storm(i, 1 + i, 1 + i);
            x.rain(i % 8, i, 1 + i, 10 + i);
        }
        for (int i = 0; i < 6; i++) {
            x.raise(i, 1, 1 + i);
        }
        x.drive(3, true, 9);
        x.send(1, 4, 10);
        return x;
    }

    /** A crowded one behind twenty years without an hour, and in its last hour. */
    static Polderwardens full() {
        Polderwardens x = crowded();
        for (int year = 0; year < 20; year++) {
            x.endYear();
        }
        for (int i = 0; i < 199; i++) {
            x.run(50);
        }
        x.run(49);
        return x;
    }
}
