/** Promises 6 to 8: gates, pumps, dykes are added. */
final class WayPromises {
    private static final int[] NO_ENDS = {-1, 2, 8, 19, 22, Integer.MAX_VALUE, Integer.MIN_VALUE};

    private WayPromises() {
    }

    static void run(Check c) {
        addGate(c);
        addPump(c);
        addDyke(c);
    }

    private static Polderwardens twoBasins() {
        Polderwardens x = new Polderwardens();
        x.addBasin(10, 0);
        x.addBasin(10, 0);
        return x;
    }

    private static void addGate(Check c) {
        c.about("promise 6");
        Polderwardens x = twoBasins();
        for (int end : NO_ENDS) {
            c.none(x, "first " + end, () -> x.addGate(end, 0, 0, 9));
            c.none(x, "second " + end, () -> x.addGate(0, end, 0, 9));
            c.none(x, "outside and " + end, () -> x.addGate(20, end, 1, 0));
        }
        c.wrong(x, "the same", () -> x.addGate(1, 1, 1, 0));
        c.wrong(x, "the sea twice", () -> x.addGate(20, 20, 1, 0));
        c.wrong(x, "no basin", () -> x.addGate(20, 21, 1, 0));
        c.wrong(x, "amount 0", () -> x.addGate(0, 20, 0, 0));
        c.wrong(x, "amount 10000", () -> x.addGate(0, 20, 10000, 0));
        c.wrong(x, "rank -1", () -> x.addGate(0, 20, 1, -1));
        c.wrong(x, "rank 4", () -> x.addGate(0, 20, 1, 4));
        c.due("basin and basin", 0, x.addGate(0, 1, 1, 0));
        c.due("basin and sea", 1, x.addGate(1, 20, 9999, 3));
        c.due("river and basin", 2, x.addGate(21, 0, 9999, 1));
        c.due("the same again", 3, x.addGate(0, 1, 1, 2));
        c.due("is not open", false, x.isOpen(0));
        for (int i = 4; i < 8; i++) {
            c.due("gate " + i, i, x.addGate(20, 0, 1, 0));
        }
        c.notNow(x, "a ninth", () -> x.addGate(0, 1, 1, 0));
        c.wrong(x, "a ninth without amount", () -> x.addGate(0, 1, 0, 0));
        c.none(x, "a ninth without end", () -> x.addGate(0, 2, 0, 0));
        c.due("a pump all the same", 0, x.addPump(0, 1, 1, 0, 1));
        c.due("a dyke all the same", 0, x.addDyke(0, 1, 0, 1, 0));
    }

    private static void addPump(Check c) {
        c.about("promise 7");
        Polderwardens x = twoBasins();
        for (int end : NO_ENDS) {
            c.none(x, "first " + end, () -> x.addPump(end, 0, 0, -1, 0));
            c.none(x, "second " + end, () -> x.addPump(0, end, 0, -1, 0));
        }
        c.wrong(x, "the same", () -> x.addPump(0, 0, 1, 0, 1));
        c.wrong(x, "the river twice", () -> x.addPump(21, 21, 1, 0, 1));
        c.wrong(x, "no basin", () -> x.addPump(21, 20, 1, 0, 1));
        c.wrong(x, "amount 0", () -> x.addPump(0, 20, 0, 0, 1));
        c.wrong(x, "amount 10000", () -> x.addPump(0, 20, 10000, 0, 1));
        c.wrong(x, "head -1", () -> x.addPump(0, 20, 1, -1, 1));
        c.wrong(x, "head 1000", () -> x.addPump(0, 20, 1, 1000, 1));
        c.wrong(x, "limit 0", () -> x.addPump(0, 20, 1, 0, 0));
        c.wrong(x, "limit 1000", () -> x.addPump(0, 20, 1, 0, 1000));
        c.due("first", 0, x.addPump(0, 20, 1, 0, 1));
        c.due("second", 1, x.addPump(21, 1, 9999, 999, 999));
        for (int what = 0; what < 3; what++) {
            c.due("pump(1, " + what + ")", 0, x.pump(1, what));
        }
        for (int i = 2; i < 8; i++) {
            c.due("pump " + i, i, x.addPump(0, 1, 1, 0, 1));
        }
        c.notNow(x, "a ninth", () -> x.addPump(0, 1, 1, 0, 1));
        c.wrong(x, "a ninth without limit", () -> x.addPump(0, 1, 1, 0, 0));
        c.none(x, "a ninth without end", () -> x.addPump(0, 2, 1, 0, 0));
    }

    private static void addDyke(Check c) {
        c.about("promise 8");
        Polderwardens x = twoBasins();
        for (int end : NO_ENDS) {
            c.none(x, "first " + end, () -> x.addDyke(end, 0, 1000, 0, 100));
            c.none(x, "second " + end, () -> x.addDyke(0, end, 1000, 0, 100));
        }
        c.wrong(x, "the same", () -> x.addDyke(0, 0, 0, 1, 0));
        c.wrong(x, "no basin", () -> x.addDyke(20, 21, 0, 1, 0));
        c.wrong(x, "crest -501", () -> x.addDyke(0, 20, -501, 1, 0));
        c.wrong(x, "crest 1000", () -> x.addDyke(0, 20, 1000, 1, 0));
        c.wrong(x, "strength 0", () -> x.addDyke(0, 20, 0, 0, 0));
        c.wrong(x, "strength 1000", () -> x.addDyke(0, 20, 0, 1000, 0));
        c.wrong(x, "seepage -1", () -> x.addDyke(0, 20, 0, 1, -1));
        c.wrong(x, "seepage 100", () -> x.addDyke(0, 20, 0, 1, 100));
        c.due("first", 0, x.addDyke(0, 20, -500, 1, 0));
        c.due("second", 1, x.addDyke(21, 1, 999, 999, 99));
        c.due("crest of the first", -500, x.dyke(0, 0));
        c.due("crest of the second", 999, x.dyke(1, 0));
        c.due("damage", 0, x.dyke(1, 1));
        c.due("breach", 0, x.dyke(1, 2));
        for (int i = 2; i < 8; i++) {
            c.due("dyke " + i, i, x.addDyke(0, 1, 0, 1, 0));
        }
        c.notNow(x, "a ninth", () -> x.addDyke(0, 1, 0, 1, 0));
        c.wrong(x, "a ninth without strength", () -> x.addDyke(0, 1, 0, 0, 0));
        c.none(x, "a ninth without end", () -> x.addDyke(2, 1, 0, 0, 0));
    }
}
