import java.util.List;

/** What a call is due to answer, by the document: "5", "1" for true, or the name of an exception. */
final class Due {
    private static final String NONE = "IndexOutOfBoundsException";
    private static final String WRONG = "IllegalArgumentException";
    private static final String NOT_NOW = "IllegalStateException";

    private final PlainLand land = new PlainLand();

    String answer(String call, int... a) {
        switch (call) {
            case "addBasin": return addBasin(a);
            case "setLand": return setLand(a);
            case "pour": return pour(a);
            case "road": return road(a);
            case "addGate": return addGate(a);
            case "addPump": return addPump(a);
            case "addDyke": return addDyke(a);
            case "setOutside": return setOutside(a);
            case "storm": return storm(a);
            case "rain": return rain(a);
            case "setSeed": return setSeed(a);
            case "command": return command(a);
            case "drive": return drive(a);
            case "mend": return mend(a);
            case "send": return send(a);
            case "budget": return budget(a);
            case "raise": return raise(a);
            case "run": return run(a);
            case "endYear": return endYear();
            default: return told(call, a);
        }
    }

    private String told(String call, int... a) {
        switch (call) {
            case "hour": return "" + land.hour;
            case "money": return "" + land.money;
            case "level": return isEnd(a[0]) ? "" + land.level(a[0]) : NONE;
            case "water": return of(land.basins, a[0], "water");
            case "harm": return of(land.basins, a[0], "harm");
            case "ledger": return in(a[0], 0, 3) ? "" + land.ledger[a[0]] : WRONG;
            case "isOpen": return of(land.gates, a[0], "open");
            case "pump": return of(land.pumps, a[0], a[1], "on", "fuel", "wear");
            case "dyke": return of(land.dykes, a[0], a[1], "crest", "damage", "breach");
            case "crew": return of(land.crews, a[0], a[1], "basin", "bags", "dyke");
            case "sea": return in(a[0], 0, 9999) ? "" + land.sea(a[0]) : WRONG;
            case "forecast": return forecast(a[0]);
            case "record": return in(a[0], 0, land.records.size() - 1) ? "" + land.records.get(a[0]) : NONE;
            case "nextHeight": return nextHeight(a[0], a[1]);
            case "share": return !isBasin(a[1]) ? NONE : in(a[0], 0, 999999) ? "" + land.share(a[0], a[1]) : WRONG;
            case "digest": return "" + land.digest();
            case "digestAnew": return "" + land.digest();
            default: throw new IllegalStateException("no such call: " + call);
        }
    }

    private static boolean in(long value, long least, long most) {
        return value >= least && value <= most;
    }

    private boolean isBasin(int number) {
        return in(number, 0, land.basins.size() - 1);
    }

    private boolean isEnd(int end) {
        return isBasin(end) || end == 20 || end == 21;
    }

    private static String of(List<PlainLand.Row> rows, int number, String name) {
        return in(number, 0, rows.size() - 1) ? "" + rows.get(number).of(name) : NONE;
    }

    private static String of(List<PlainLand.Row> rows, int number, int what, String... names) {
        if (!in(number, 0, rows.size() - 1)) {
            return NONE;
        }
        return in(what, 0, 2) ? "" + rows.get(number).of(names[what]) : WRONG;
    }

    private static PlainLand.Row row() {
        return new PlainLand.Row();
    }

    private static String added(List<PlainLand.Row> rows, PlainLand.Row row) {
        if (rows.size() == 8) {
            return NOT_NOW;
        }
        rows.add(row);
        return "" + (rows.size() - 1);
    }

    private String addBasin(int... a) {
        if (!in(a[0], 1, 100) || !in(a[1], -500, 500)) {
            return WRONG;
        }
        return added(land.basins, row().with("area", a[0]).with("ground", a[1]).with("water", 0)
                .with("sinks", 0).with("floor", 100).with("worth", 0).with("harm", 0));
    }

    private String setLand(int... a) {
        if (!isBasin(a[0])) {
            return NONE;
        }
        if (!in(a[1], 0, 20) || !in(a[2], 0, 9999) || !in(a[3], 0, 99)) {
            return WRONG;
        }
        land.basins.get(a[0]).with("sinks", a[1]).with("floor", a[2]).with("worth", a[3]);
        return "";
    }

    private String pour(int... a) {
        if (!isBasin(a[0])) {
            return NONE;
        }
        if (!in(a[1], 0, 1000000)) {
            return WRONG;
        }
        land.basins.get(a[0]).add("water", a[1]);
        land.ledger[0] += a[1];
        return "" + land.basins.get(a[0]).of("water");
    }

    private String road(int... a) {
        if (!isBasin(a[0]) || !isBasin(a[1])) {
            return NONE;
        }
        if (a[0] == a[1]) {
            return WRONG;
        }
        boolean was = land.roads[a[0]][a[1]];
        land.roads[a[0]][a[1]] = a[2] == 1;
        land.roads[a[1]][a[0]] = a[2] == 1;
        return was ? "1" : "0";
    }

    private String wayWrong(int... a) {
        if (!isEnd(a[0]) || !isEnd(a[1])) {
            return NONE;
        }
        return a[0] == a[1] || a[0] >= 20 && a[1] >= 20 ? WRONG : null;
    }

    private String addGate(int... a) {
        if (wayWrong(a) != null) {
            return wayWrong(a);
        }
        if (!in(a[2], 1, 9999) || !in(a[3], 0, 3)) {
            return WRONG;
        }
        return added(land.gates, row().with("first", a[0]).with("second", a[1]).with("amount", a[2])
                .with("rank", a[3]).with("open", 0));
    }

    private String addPump(int... a) {
        if (wayWrong(a) != null) {
            return wayWrong(a);
        }
        if (!in(a[2], 1, 9999) || !in(a[3], 0, 999) || !in(a[4], 1, 999)) {
            return WRONG;
        }
        return added(land.pumps, row().with("first", a[0]).with("second", a[1]).with("amount", a[2])
                .with("head", a[3]).with("limit", a[4]).with("on", 0).with("fuel", 0).with("wear", 0));
    }

    private String addDyke(int... a) {
        if (wayWrong(a) != null) {
            return wayWrong(a);
        }
        if (!in(a[2], -500, 999) || !in(a[3], 1, 999) || !in(a[4], 0, 99)) {
            return WRONG;
        }
        return added(land.dykes, row().with("first", a[0]).with("second", a[1]).with("crest", a[2])
                .with("strength", a[3]).with("seepage", a[4]).with("damage", 0).with("breach", 0));
    }

    private String setOutside(int... a) {
        if (!in(a[0], -99, 99) || !in(a[1], 0, 400) || !in(a[2], -9999, 99999)) {
            return WRONG;
        }
        land.mean = a[0];
        land.range = a[1];
        land.river = a[2];
        return "";
    }

    private String storm(int... a) {
        if (!in(a[0], 0, 9999) || !in(a[1], 1, 99) || !in(a[2], 1, 500)) {
            return WRONG;
        }
        if (land.storms.size() == 12) {
            return NOT_NOW;
        }
        land.storms.add(row().with("begin", a[0]).with("length", a[1]).with("peak", a[2]));
        return "" + land.storms.size();
    }

    private String rain(int... a) {
        if (!isBasin(a[0])) {
            return NONE;
        }
        if (!in(a[1], 0, 9999) || !in(a[2], 1, 99) || !in(a[3], 1, 9999)) {
            return WRONG;
        }
        if (land.rains.size() == 12) {
            return NOT_NOW;
        }
        land.rains.add(row().with("basin", a[0]).with("begin", a[1]).with("length", a[2]).with("litres", a[3]));
        return "" + land.rains.size();
    }

    private String setSeed(int... a) {
        if (!in(a[0], 0, 9999)) {
            return WRONG;
        }
        long before = land.seed;
        land.seed = a[0];
        return "" + before;
    }

    private String command(int... a) {
        if (!in(a[0], 0, land.gates.size() - 1)) {
            return NONE;
        }
        if (!in(a[2], 0, 3)) {
            return WRONG;
        }
        PlainLand.Row gate = land.gates.get(a[0]);
        if (a[2] < gate.of("rank")) {
            return "1";
        }
        if (a[1] == 1 && land.seaIsHigher(gate)) {
            return "2";
        }
        if (a[1] == 1 && a[2] < 3 && lowerHasWorth(gate)) {
            return "3";
        }
        gate.with("open", a[1]);
        return "0";
    }

    private boolean lowerHasWorth(PlainLand.Row gate) {
        long first = land.level(gate.of("first"));
        long second = land.level(gate.of("second"));
        long lower = first < second ? gate.of("first") : gate.of("second");
        return first != second && lower < 20 && land.basins.get((int) lower).of("worth") > 0;
    }

    private boolean pays(long cost) {
        if (land.money < cost) {
            return false;
        }
        land.money -= cost;
        return true;
    }

    private String drive(int... a) {
        if (!in(a[0], 0, land.pumps.size() - 1)) {
            return NONE;
        }
        if (!in(a[2], 0, 99)) {
            return WRONG;
        }
        if (!pays(a[2])) {
            return NOT_NOW;
        }
        land.pumps.get(a[0]).with("on", a[1]).add("fuel", a[2]);
        return "" + land.pumps.get(a[0]).of("fuel");
    }

    private String mend(int... a) {
        if (!in(a[0], 0, land.pumps.size() - 1)) {
            return NONE;
        }
        if (!pays(20)) {
            return NOT_NOW;
        }
        long before = land.pumps.get(a[0]).of("wear");
        land.pumps.get(a[0]).with("wear", 0);
        return "" + before;
    }

    private String send(int... a) {
        if (!in(a[0], 0, 2) || !in(a[1], -1, land.dykes.size() - 1)) {
            return NONE;
        }
        if (!in(a[2], 0, 99)) {
            return WRONG;
        }
        if (!pays(a[2])) {
            return NOT_NOW;
        }
        land.crews.get(a[0]).with("dyke", a[1]).add("bags", a[2]);
        return "" + land.crews.get(a[0]).of("bags");
    }

    private String budget(int... a) {
        if (!in(a[0], 0, 9999) || !in(a[1], 0, 9999)) {
            return WRONG;
        }
        land.yearly = a[0];
        land.money += a[1];
        return "" + land.money;
    }

    private String raise(int... a) {
        if (!in(a[0], 0, land.dykes.size() - 1)) {
            return NONE;
        }
        if (!in(a[1], 1, 99) || !in(a[2], 1, 9)) {
            return WRONG;
        }
        if (land.works.size() == 6 || !pays(10 * a[1])) {
            return NOT_NOW;
        }
        land.works.add(row().with("dyke", a[0]).with("by", a[1]).with("years", a[2]));
        return "" + land.money;
    }

    private String run(int... a) {
        if (!in(a[0], 1, 50)) {
            return WRONG;
        }
        if (land.hour + a[0] > 9999) {
            return NOT_NOW;
        }
        for (int i = 0; i < a[0]; i++) {
            land.passHour();
        }
        return "" + land.hour;
    }

    private String endYear() {
        if (land.records.size() == 20) {
            return NOT_NOW;
        }
        land.closeYear();
        return "" + land.records.size();
    }

    private String forecast(int ahead) {
        if (!in(ahead, 1, 48)) {
            return WRONG;
        }
        long x = (75 * land.hour + 1009 * ahead + land.seed) % 65537;
        return "" + (land.sea(land.hour + ahead) + (x % (2 * ahead + 1) - ahead) * 10);
    }

    private String nextHeight(int last, int rank) {
        if (!in(last, 1, 20) || !in(rank, 1, last)) {
            return WRONG;
        }
        if (last > land.records.size() || land.ranked(last, rank) == Long.MIN_VALUE) {
            return NOT_NOW;
        }
        long ranked = land.ranked(last, rank);
        return "" + (Math.floorDiv(ranked, 100) + (Math.floorMod(ranked, 100) > 0 ? 1 : 0) + 50);
    }
}
