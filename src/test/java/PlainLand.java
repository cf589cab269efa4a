import java.util.ArrayList;
import java.util.HashMap;
import java.util.List;
import java.util.Map;

/**
 * The document once more, written as plainly as can be, to compare random runs with.
 * It looks at no argument: calls that the document refuses are told by Due.
 */
final class PlainLand {
    /** A row of named numbers. */
    static final class Row extends HashMap<String, Long> {
        private static final long serialVersionUID = 1L;

        Row with(String name, long value) {
            put(name, value);
            return this;
        }

        long of(String name) {
            return get(name);
        }

        void add(String name, long more) {
            put(name, get(name) + more);
        }
    }

    final List<Row> basins = new ArrayList<>();
    final List<Row> gates = new ArrayList<>();
    final List<Row> pumps = new ArrayList<>();
    final List<Row> dykes = new ArrayList<>();
    final List<Row> crews = new ArrayList<>();
    final List<Row> storms = new ArrayList<>();
    final List<Row> rains = new ArrayList<>();
    final List<Row> works = new ArrayList<>();
    final List<Long> records = new ArrayList<>();
    final boolean[][] roads = new boolean[8][8];
    final long[] ledger = new long[4];
    long mean;
    long range = 100;
    long river;
    long seed = 1;
    long money;
    long yearly;
    long hour;
    long greatest = Long.MIN_VALUE;

    PlainLand() {
        for (int i = 0; i < 3; i++) {
            crews.add(new Row().with("basin", 0).with("bags", 10).with("dyke", -1));
        }
    }

    // ---- levels

    long sea(long at) {
        long p = at % 12;
        long tide = Math.floorDiv(range * (p <= 6 ? p : 12 - p), 6) - Math.floorDiv(range, 2);
        long surge = 0;
        for (Row storm : storms) {
            long since = at - storm.of("begin");
            long left = storm.of("length") - since;
            if (since >= 0 && left >= 1) {
                long now = 100 * storm.of("peak") * Math.min(since + 1, left) * 2;
                surge = Math.max(surge, Math.floorDiv(now, storm.of("length") + 1));
            }
        }
        return 100 * mean + 100 * tide + surge;
    }

    long level(long end) {
        if (end >= 20) {
            return end == 20 ? sea(hour) : river;
        }
        Row basin = basins.get((int) end);
        return 100 * basin.of("ground") + Math.floorDiv(100 * basin.of("water"), basin.of("area"));
    }

    private long area(long end) {
        return basins.get((int) end).of("area");
    }

    private void move(long from, long to, long litres) {
        if (from < 20) {
            basins.get((int) from).add("water", -litres);
        } else {
            ledger[2] += litres;
        }
        if (to < 20) {
            basins.get((int) to).add("water", litres);
        } else {
            ledger[3] += litres;
        }
    }

    private long levelTwo(Row way, long amount) {
        long a = way.of("first");
        long b = way.of("second");
        if (level(a) < level(b)) {
            long swap = a;
            a = b;
            b = swap;
        }
        long d = level(a) - level(b);
        long most;
        if (a < 20 && b < 20) {
            most = Math.floorDiv(Math.floorDiv(d * area(a) * area(b), area(a) + area(b)), 100);
        } else {
            most = Math.floorDiv(d * area(a < 20 ? a : b), 100);
        }
        long litres = Math.min(amount, most);
        if (a < 20) {
            litres = Math.min(litres, basins.get((int) a).of("water"));
        }
        move(a, b, litres);
        return litres;
    }

    boolean seaIsHigher(Row way) {
        if (way.of("first") == 20) {
            return sea(hour) > level(way.of("second"));
        }
        return way.of("second") == 20 && sea(hour) > level(way.of("first"));
    }

    // ---- an hour

    void passHour() {
        for (Row rain : rains) {
            if (hour >= rain.of("begin") && hour <= rain.of("begin") + rain.of("length") - 1) {
                basins.get((int) rain.of("basin")).add("water", rain.of("litres"));
                ledger[1] += rain.of("litres");
            }
        }
        for (Row gate : gates) {
            if (gate.of("open") == 1 && seaIsHigher(gate)) {
                gate.with("open", 0);
            }
            if (gate.of("open") == 1) {
                levelTwo(gate, gate.of("amount"));
            }
        }
        pumps.forEach(this::pumpHour);
        dykes.forEach(this::dykeHour);
        for (int i = 0; i < basins.size(); i++) {
            long over = level(i) - 100 * basins.get(i).of("ground") - basins.get(i).of("floor");
            if (over > 0) {
                basins.get(i).add("harm", basins.get(i).of("worth") * (Math.min(over / 50, 9) + 1));
            }
        }
        crews.forEach(this::crewHour);
        greatest = Math.max(greatest, sea(hour));
        hour++;
    }

    private void pumpHour(Row pump) {
        long from = pump.of("first");
        long amount = pump.of("amount");
        if (from < 20) {
            amount = Math.min(amount, basins.get((int) from).of("water"));
        }
        boolean lifts = level(pump.of("second")) <= level(from) + 100 * pump.of("head");
        boolean ready = pump.of("on") == 1 && pump.of("fuel") > 0 && pump.of("wear") != pump.of("limit");
        if (lifts && ready && amount > 0) {
            move(from, pump.of("second"), amount);
            pump.add("fuel", -1);
            pump.add("wear", 1);
        }
    }

    private void dykeHour(Row dyke) {
        if (dyke.of("breach") > 0) {
            levelTwo(dyke, 50 * dyke.of("breach"));
            dyke.with("breach", Math.min(10, dyke.of("breach") + 1));
            return;
        }
        long d = Math.abs(level(dyke.of("first")) - level(dyke.of("second")));
        levelTwo(dyke, Math.floorDiv(d * dyke.of("seepage"), 1000));
        long high = level(dyke.of("first")) > level(dyke.of("second")) ? dyke.of("first") : dyke.of("second");
        long above = level(high) - 100 * dyke.of("crest");
        if (above > 0) {
            long most = high < 20 ? Math.min(500, Math.floorDiv(above * area(high), 100)) : 500;
            if (levelTwo(dyke, most) > 0) {
                dyke.add("damage", 20);
            }
        }
        dyke.add("damage", d < 200 ? 0 : d / 100);
        if (dyke.of("damage") >= dyke.of("strength")) {
            dyke.with("breach", 1);
        }
    }

    private boolean cut(int basin) {
        Row row = basins.get(basin);
        return level(basin) >= 100 * row.of("ground") + row.of("floor") + 100;
    }

    /** How many roads that are not cut lead there at least; 99 if there is no way. */
    private int roadsBetween(int from, int to, int most) {
        if (from == to) {
            return 0;
        }
        int fewest = 99;
        for (int i = 0; i < basins.size() && most > 0; i++) {
            if (roads[from][i] && !cut(from) && !cut(i)) {
                fewest = Math.min(fewest, 1 + roadsBetween(i, to, most - 1));
            }
        }
        return fewest;
    }

    private void crewHour(Row crew) {
        if (crew.of("dyke") < 0) {
            return;
        }
        Row dyke = dykes.get((int) crew.of("dyke"));
        int goal = (int) (dyke.of("first") < 20 ? dyke.of("first") : dyke.of("second"));
        int here = (int) crew.of("basin");
        if (here == goal) {
            workAt(dyke, crew);
            return;
        }
        int best = 99;
        for (int i = 0; i < basins.size(); i++) {
            if (roads[here][i] && !cut(here) && !cut(i) && roadsBetween(i, goal, 6) < best) {
                best = roadsBetween(i, goal, 6);
                crew.with("basin", i);
            }
        }
    }

    private void workAt(Row dyke, Row crew) {
        if (crew.of("bags") == 0 || dyke.of("breach") == 0 && dyke.of("damage") == 0) {
            return;
        }
        crew.add("bags", -1);
        if (dyke.of("breach") == 0) {
            dyke.with("damage", Math.max(0, dyke.of("damage") - 15));
        } else if (dyke.of("breach") <= 3) {
            dyke.with("breach", 0).with("damage", 0);
        } else {
            dyke.add("breach", -3);
        }
    }

    // ---- years

    void closeYear() {
        for (Row basin : basins) {
            basin.add("ground", -basin.of("sinks"));
        }
        money += yearly;
        for (Row work : works) {
            work.add("years", -1);
            if (work.of("years") == 0) {
                dykes.get((int) work.of("dyke")).add("crest", work.of("by"));
            }
        }
        works.removeIf(work -> work.of("years") == 0);
        records.add(greatest);
        greatest = Long.MIN_VALUE;
    }

    long ranked(int last, int rank) {
        List<Long> sorted = new ArrayList<>(records.subList(records.size() - last, records.size()));
        sorted.sort((a, b) -> Long.compare(b, a));
        return sorted.get(rank - 1);
    }

    long share(long cost, int asked) {
        long high = Long.MIN_VALUE;
        for (long record : records) {
            high = Math.max(high, record);
        }
        high = high == Long.MIN_VALUE ? mean + range : Math.floorDiv(high, 100);
        Map<Integer, Long> parts = new HashMap<>();
        long all = 0;
        for (Row dyke : dykes) {
            long basin = dyke.of("first") == 20 ? dyke.of("second") : dyke.of("first");
            boolean ofSea = dyke.of("first") == 20 || dyke.of("second") == 20;
            if (ofSea && !parts.containsKey((int) basin) && basins.get((int) basin).of("ground") < high) {
                long part = area(basin) * (high - basins.get((int) basin).of("ground"));
                parts.put((int) basin, part);
                all += part;
            }
        }
        if (!parts.containsKey(asked)) {
            return 0;
        }
        long total = all;
        long left = cost;
        List<Integer> order = new ArrayList<>(parts.keySet());
        for (int basin : order) {
            left -= cost * parts.get(basin) / total;
        }
        order.sort((a, b) -> {
            int byRest = Long.compare(cost * parts.get(b) % total, cost * parts.get(a) % total);
            return byRest != 0 ? byRest : Integer.compare(a, b);
        });
        return cost * parts.get(asked) / total + (order.indexOf(asked) < left ? 1 : 0);
    }

    long digest() {
        long sum = (7 * 31 + hour) * 31 + money;
        for (int i = 0; i < basins.size(); i++) {
            sum = 31 * sum + basins.get(i).of("water");
            sum = 31 * sum + level(i);
            sum = 31 * sum + basins.get(i).of("harm");
        }
        for (Row dyke : dykes) {
            sum = ((31 * sum + dyke.of("crest")) * 31 + dyke.of("damage")) * 31 + dyke.of("breach");
        }
        for (Row pump : pumps) {
            sum = (31 * sum + pump.of("fuel")) * 31 + pump.of("wear");
        }
        return sum;
    }
}
