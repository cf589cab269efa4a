/**
 * "A call that throws an exception changes nothing": each refused call is made on one of two lands alike;
 * both look the same behind it, and go on in the same way.
 */
final class EdgeRefusals {
    private static final String[] ON_A_CROWDED_LAND = {
        "addBasin(1, 0) = not now", "addBasin(0, 0) = wrong", "addBasin(1, 501) = wrong",
        "setLand(8, 7, 7, 7) = none", "setLand(0, 21, 7, 7) = wrong", "setLand(0, 7, 10000, 7) = wrong",
        "setLand(0, 7, 7, 100) = wrong", "pour(8, 7) = none", "pour(0, -1) = wrong", "pour(0, 1000001) = wrong",
        "road(0, 8, true) = none", "road(8, 0, false) = none", "road(3, 3, false) = wrong", "road(3, 3, true) = wrong",
        "addGate(0, 8, 1, 0) = none", "addGate(0, 0, 1, 0) = wrong", "addGate(0, 20, 0, 0) = wrong",
        "addGate(0, 20, 1, 4) = wrong", "addGate(0, 20, 1, 0) = not now",
        "addPump(8, 0, 1, 0, 1) = none", "addPump(0, 0, 1, 0, 1) = wrong", "addPump(0, 20, 0, 0, 1) = wrong",
        "addPump(0, 20, 1, 1000, 1) = wrong", "addPump(0, 20, 1, 0, 0) = wrong", "addPump(0, 20, 1, 0, 1) = not now",
        "addDyke(0, 22, 1, 1, 1) = none", "addDyke(0, 0, 1, 1, 1) = wrong", "addDyke(0, 20, -501, 1, 1) = wrong",
        "addDyke(0, 20, 1, 0, 1) = wrong", "addDyke(0, 20, 1, 1, 100) = wrong", "addDyke(0, 20, 1, 1, 1) = not now",
        "setOutside(100, 7, 7) = wrong", "setOutside(7, 401, 7) = wrong", "setOutside(7, 7, 100000) = wrong",
        "storm(10000, 1, 1) = wrong", "storm(0, 100, 1) = wrong", "storm(0, 99, 501) = wrong",
        "storm(0, 99, 500) = not now",
        "rain(8, 0, 1, 1) = none", "rain(0, 10000, 1, 1) = wrong", "rain(0, 0, 100, 1) = wrong",
        "rain(0, 0, 1, 10000) = wrong", "rain(0, 0, 99, 9999) = not now", "setSeed(10000) = wrong",
        "setSeed(-1) = wrong",
        "command(8, true, 3) = none", "command(0, true, 4) = wrong", "command(0, true, -1) = wrong",
        "drive(8, true, 0) = none", "drive(3, false, 100) = wrong", "drive(3, false, 1) = not now",
        "drive(4, true, -1) = wrong",
        "mend(8) = none", "mend(3) = not now", "send(3, 2, 0) = none", "send(1, 8, 0) = none", "send(1, -2, 0) = none",
        "send(1, 2, 100) = wrong", "send(1, -1, -1) = wrong", "send(1, 2, 1) = not now", "send(1, -1, 1) = not now",
        "budget(7, 10000) = wrong", "budget(10000, 7) = wrong", "budget(-1, 7) = wrong", "budget(7, -1) = wrong",
        "raise(8, 1, 1) = none", "raise(0, 100, 1) = wrong", "raise(0, 1, 10) = wrong", "raise(0, 1, 1) = not now",
        "run(0) = wrong", "run(51) = wrong", "run(-5) = wrong",
        "level(8) = none", "water(8) = none", "harm(8) = none", "ledger(4) = wrong", "isOpen(8) = none",
        "pump(8, 0) = none", "pump(0, 3) = wrong", "dyke(8, 0) = none", "dyke(0, 3) = wrong", "crew(3, 0) = none",
        "crew(0, 3) = wrong", "sea(10000) = wrong", "forecast(49) = wrong", "record(0) = none",
        "nextHeight(1, 1) = not now", "nextHeight(1, 2) = wrong", "share(1000000, 0) = wrong", "share(1, 8) = none",
        // those that are refused without an exception
        "command(3, true, 2) = 1", "command(3, false, 2) = 1",
    };
    private static final String LIFE = "run(2); send(0, 6, 0); send(2, 3, 0); command(3, true, 3); run(4); "
            + "budget(7, 60);"
            + "endYear(); drive(0, true, 9); pour(0, 900); command(0, true, 3); run(3); mend(3); endYear(); run(2)";

    private EdgeRefusals() {
    }

    static void run(Check c) {
        crowded(c);
        asked(c);
        inTheLastHour(c);
        worksAndMoney(c);
        empty(c);
    }

    private static void crowded(Check c) {
        Polderwardens twin = Lands.crowded();
        String before = Picture.of(twin);
        Runs.on(c, twin, LIFE);
        String behind = Picture.of(twin);
        for (String call : ON_A_CROWDED_LAND) {
            c.about("nothing is changed by " + call);
            Polderwardens x = Lands.crowded();
            Runs.on(c, x, call);
            c.holds("at once", before.equals(Picture.of(x)));
            Runs.on(c, x, LIFE);
            c.holds("behind some hours and years", behind.equals(Picture.of(x)));
        }
    }

    /** One of two lands alike is asked for all that there is, and more than once; both go on in the same way. */
    private static void asked(Check c) {
        c.about("\"nothing from here on changes anything.\"");
        Polderwardens twin = Lands.crowded();
        Polderwardens x = Lands.crowded();
        Picture.of(x);
        Runs.on(c, x, "forecast(48); sea(9999); share(999999, 7); nextHeight(1, 1) = not now",
                "digestAnew(); digest(); digestAnew()");
        Runs.on(c, twin, LIFE);
        Runs.on(c, x, LIFE);
        c.holds("it goes on as one that was not asked", Picture.of(twin).equals(Picture.of(x)));
        c.due("digestAnew()", twin.digestAnew(), x.digestAnew());
        c.due("digest()", x.digest(), x.digestAnew());
    }

    private static void inTheLastHour(Check c) {
        String before = Picture.of(Lands.full());
        for (String call : new String[] {"run(1) = not now", "run(50) = not now", "endYear() = not now"}) {
            c.about("nothing is changed in the last hour by " + call);
            Polderwardens x = Lands.full();
            Runs.on(c, x, call);
            c.holds("at once", before.equals(Picture.of(x)));
        }
        c.about("a run that would go beyond the last hour does not go at all");
        Runs.due(c, "Throws `IllegalStateException` if the hour would be above 9999",
                "199 x run(50); addBasin(1, 0); rain(0, 9940, 99, 3); run(50) = not now; hour() = 9950",
                "water(0) = 0; ledger(1) = 0",
                "run(49) = 9999; water(0) = 147; run(1) = not now; water(0) = 147");
    }

    private static void worksAndMoney(Check c) {
        Runs.due(c, "A call that throws an exception changes nothing.",
                // money enough, but six works
                "addBasin(1, 0); addDyke(0, 20, 5, 1, 0); budget(0, 100); 6 x raise(0, 1, 1)",
                "raise(0, 1, 1) = not now; money() = 40; endYear(); dyke(0, 0) = 11; money() = 40",
                // room enough, but no money
                "raise(0, 5, 1) = not now; money() = 40; endYear(); dyke(0, 0) = 11; raise(0, 4, 1) = 0",
                "raise(0, 1, 1) = not now; endYear(); dyke(0, 0) = 15; money() = 0");
    }

    private static void empty(Check c) {
        Runs.due(c, "A call that throws an exception changes nothing.",
                "addBasin(0, 0) = wrong; addBasin(1, -501) = wrong; pour(0, 1) = none",
                "addGate(20, 21, 1, 1) = wrong; addGate(0, 20, 1, 1) = none; send(0, 0, 0) = none",
                "send(0, -1, 1) = not now; setOutside(100, 0, 9) = wrong; storm(0, 0, 1) = wrong",
                "rain(0, 0, 1, 1) = none; setSeed(10000) = wrong; budget(0, 10000) = wrong",
                "run(0) = wrong; hour() = 0; money() = 0; level(20) = -5000; level(21) = 0; setSeed(4) = 1",
                "storm(0, 1, 1) = 1; crew(0, 1) = 10; crew(0, 2) = -1",
                "addBasin(1, 0) = 0; rain(0, 0, 1, 1) = 1; addGate(0, 20, 1, 0) = 0; addPump(0, 20, 1, 0, 1) = 0",
                "addDyke(0, 20, 0, 1, 0) = 0");
    }
}
