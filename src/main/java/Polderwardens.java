/**
 * A company that keeps a low land dry. The document tells what each call does;
 * this class is its face: it looks at the arguments, notes each call that
 * changes something, and lets the land do it.
 */
public final class Polderwardens {
    private static final int SEA = 20;
    private static final int RIVER = 21;

    private static final int MOST_BASINS = 8;
    private static final int MOST_WAYS = 8;
    private static final int MOST_CREWS = 3;
    private static final int MOST_SPELLS = 12;
    private static final int MOST_WORKS = 6;
    private static final int MOST_YEARS = 20;
    private static final int LAST_HOUR = 9999;
    private static final int MEND_COST = 20;
    private static final int RAISE_COST = 10;

    private static final int POURED = 0;
    private static final int RAINED = 1;
    private static final int CAME_IN = 2;
    private static final int WENT_OUT = 3;

    private static final int ADD_BASIN = 0;
    private static final int SET_LAND = 1;
    private static final int POUR = 2;
    private static final int ROAD = 3;
    private static final int ADD_GATE = 4;
    private static final int ADD_PUMP = 5;
    private static final int ADD_DYKE = 6;
    private static final int SET_OUTSIDE = 7;
    private static final int STORM = 8;
    private static final int RAIN = 9;
    private static final int SET_SEED = 10;
    private static final int COMMAND = 11;
    private static final int DRIVE = 12;
    private static final int MEND = 13;
    private static final int SEND = 14;
    private static final int BUDGET = 15;
    private static final int RAISE = 16;
    private static final int RUN = 17;
    private static final int END_YEAR = 18;

    /** The document lets an object be used for so many calls. */
    private static final int MOST_CALLS = 512;
    /** A noted call takes its kind and five arguments. */
    private static final int NOTE = 6;

    private final Land land = new Land();
    private final int[] notes = new int[(MOST_CALLS + 1) * NOTE];
    private int noted;

    /**
     * The other land, on which the noted calls are done again. It goes on from
     * where it stood, so that asking often costs no more than asking once.
     */
    private final Land again = new Land();
    private int redone;

    public Polderwardens() {
    }

    // ---- land

    public int addBasin(int area, int ground) throws IllegalArgumentException, IllegalStateException {
        needRange(area, 1, 100);
        needRange(ground, -500, 500);
        needRoom(land.waters.basinCount, MOST_BASINS);
        return (int) land.act(notes, note(ADD_BASIN, area, ground, 0, 0, 0));
    }

    public void setLand(int basin, int sinks, int floor, int worth)
            throws IndexOutOfBoundsException, IllegalArgumentException {
        needBasin(basin);
        needRange(sinks, 0, 20);
        needRange(floor, 0, 9999);
        needRange(worth, 0, 99);
        land.act(notes, note(SET_LAND, basin, sinks, floor, worth, 0));
    }

    public long pour(int basin, int litres) throws IndexOutOfBoundsException, IllegalArgumentException {
        needBasin(basin);
        needRange(litres, 0, 1000000);
        return land.act(notes, note(POUR, basin, litres, 0, 0, 0));
    }

    public boolean road(int basin, int other, boolean is) throws IndexOutOfBoundsException, IllegalArgumentException {
        needBasin(basin);
        needBasin(other);
        needDifferent(basin, other);
        return land.act(notes, note(ROAD, basin, other, is ? 1 : 0, 0, 0)) != 0;
    }

    // ---- gates, pumps, dykes

    public int addGate(int first, int second, int amount, int rank)
            throws IndexOutOfBoundsException, IllegalArgumentException, IllegalStateException {
        needWay(first, second);
        needRange(amount, 1, 9999);
        needRange(rank, 0, 3);
        needRoom(land.gateCount, MOST_WAYS);
        return (int) land.act(notes, note(ADD_GATE, first, second, amount, rank, 0));
    }

    public int addPump(int first, int second, int amount, int head, int limit)
            throws IndexOutOfBoundsException, IllegalArgumentException, IllegalStateException {
        needWay(first, second);
        needRange(amount, 1, 9999);
        needRange(head, 0, 999);
        needRange(limit, 1, 999);
        needRoom(land.pumpCount, MOST_WAYS);
        return (int) land.act(notes, note(ADD_PUMP, first, second, amount, head, limit));
    }

    public int addDyke(int first, int second, int crest, int strength, int seepage)
            throws IndexOutOfBoundsException, IllegalArgumentException, IllegalStateException {
        needWay(first, second);
        needRange(crest, -500, 999);
        needRange(strength, 1, 999);
        needRange(seepage, 0, 99);
        needRoom(land.dykeCount, MOST_WAYS);
        return (int) land.act(notes, note(ADD_DYKE, first, second, crest, strength, seepage));
    }

    // ---- outside, rain

    public void setOutside(int mean, int range, int river) throws IllegalArgumentException {
        needRange(mean, -99, 99);
        needRange(range, 0, 400);
        needRange(river, -9999, 99999);
        land.act(notes, note(SET_OUTSIDE, mean, range, river, 0, 0));
    }

    public int storm(int begin, int length, int peak) throws IllegalArgumentException, IllegalStateException {
        needRange(begin, 0, LAST_HOUR);
        needRange(length, 1, 99);
        needRange(peak, 1, 500);
        needRoom(land.waters.outside.stormCount, MOST_SPELLS);
        return (int) land.act(notes, note(STORM, begin, length, peak, 0, 0));
    }

    public int rain(int basin, int begin, int length, int litres)
            throws IndexOutOfBoundsException, IllegalArgumentException, IllegalStateException {
        needBasin(basin);
        needRange(begin, 0, LAST_HOUR);
        needRange(length, 1, 99);
        needRange(litres, 1, 9999);
        needRoom(land.waters.rainCount, MOST_SPELLS);
        return (int) land.act(notes, note(RAIN, basin, begin, length, litres, 0));
    }

    public int setSeed(int seed) throws IllegalArgumentException {
        needRange(seed, 0, 9999);
        return (int) land.act(notes, note(SET_SEED, seed, 0, 0, 0, 0));
    }

    // ---- commands

    public int command(int gate, boolean isOpen, int rank)
            throws IndexOutOfBoundsException, IllegalArgumentException {
        needGate(gate);
        needRange(rank, 0, 3);
        return (int) land.act(notes, note(COMMAND, gate, isOpen ? 1 : 0, rank, 0, 0));
    }

    public int drive(int pump, boolean isOn, int fuel)
            throws IndexOutOfBoundsException, IllegalArgumentException, IllegalStateException {
        needPump(pump);
        needRange(fuel, 0, 99);
        needMoney(fuel);
        return (int) land.act(notes, note(DRIVE, pump, isOn ? 1 : 0, fuel, 0, 0));
    }

    public int mend(int pump) throws IndexOutOfBoundsException, IllegalStateException {
        needPump(pump);
        needMoney(MEND_COST);
        return (int) land.act(notes, note(MEND, pump, 0, 0, 0, 0));
    }

    public int send(int crew, int dyke, int bags)
            throws IndexOutOfBoundsException, IllegalArgumentException, IllegalStateException {
        needCrew(crew);
        if (dyke != -1) {
            needDyke(dyke);
        }
        needRange(bags, 0, 99);
        needMoney(bags);
        return (int) land.act(notes, note(SEND, crew, dyke, bags, 0, 0));
    }

    public int budget(int yearly, int now) throws IllegalArgumentException {
        needRange(yearly, 0, 9999);
        needRange(now, 0, 9999);
        return (int) land.act(notes, note(BUDGET, yearly, now, 0, 0, 0));
    }

    public int raise(int dyke, int by, int years)
            throws IndexOutOfBoundsException, IllegalArgumentException, IllegalStateException {
        needDyke(dyke);
        needRange(by, 1, 99);
        needRange(years, 1, 9);
        needMoney(by * RAISE_COST);
        needRoom(land.books.countWorks(), MOST_WORKS);
        return (int) land.act(notes, note(RAISE, dyke, by, years, 0, 0));
    }

    // ---- time

    public int run(int hours) throws IllegalArgumentException, IllegalStateException {
        needRange(hours, 1, 50);
        needState(land.waters.hour + hours <= LAST_HOUR);
        return (int) land.act(notes, note(RUN, hours, 0, 0, 0, 0));
    }

    public int endYear() throws IllegalStateException {
        needState(land.books.year < MOST_YEARS);
        return (int) land.act(notes, note(END_YEAR, 0, 0, 0, 0, 0));
    }

    // ---- what there is; nothing from here on changes anything

    public int hour() {
        return land.waters.hour;
    }

    public int money() {
        return land.books.money;
    }

    public long level(int end) throws IndexOutOfBoundsException {
        needEnd(end);
        return land.waters.heightOf(end);
    }

    public long water(int basin) throws IndexOutOfBoundsException {
        return needBasin(basin).water;
    }

    public long harm(int basin) throws IndexOutOfBoundsException {
        return needBasin(basin).harm;
    }

    public long ledger(int what) throws IllegalArgumentException {
        needRange(what, POURED, WENT_OUT);
        return land.waters.came(what);
    }

    public boolean isOpen(int gate) throws IndexOutOfBoundsException {
        return needGate(gate).open;
    }

    public int pump(int pump, int what) throws IndexOutOfBoundsException, IllegalArgumentException {
        Pump told = needPump(pump);
        needRange(what, 0, 2);
        if (what == 0) {
            return told.on ? 1 : 0;
        }
        return what == 1 ? told.fuel : told.wear;
    }

    public int dyke(int dyke, int what) throws IndexOutOfBoundsException, IllegalArgumentException {
        Dyke told = needDyke(dyke);
        needRange(what, 0, 2);
        if (what == 0) {
            return told.crest;
        }
        return what == 1 ? (int) told.damage : told.breach;
    }

    public int crew(int crew, int what) throws IndexOutOfBoundsException, IllegalArgumentException {
        Crew told = needCrew(crew);
        needRange(what, 0, 2);
        if (what == 0) {
            return told.basin;
        }
        return what == 1 ? told.bags : told.dyke;
    }

    public long sea(int hour) throws IllegalArgumentException {
        needRange(hour, 0, LAST_HOUR);
        return land.waters.outside.seaAt(hour);
    }

    public long forecast(int ahead) throws IllegalArgumentException {
        needRange(ahead, 1, 48);
        return land.waters.outside.foresee(land.waters.hour, ahead);
    }

    public long record(int year) throws IndexOutOfBoundsException {
        if (year < 0 || year >= land.books.year) {
            throw new IndexOutOfBoundsException("no such record");
        }
        return land.books.greatestIn(year);
    }

    public long nextHeight(int last, int rank) throws IllegalArgumentException, IllegalStateException {
        needRange(last, 1, MOST_YEARS);
        needRange(rank, 1, last);
        needState(last <= land.books.year);
        long ranked = land.books.rankedOf(last, rank);
        needState(ranked != Long.MIN_VALUE);
        return 50 - Math.floorDiv(-ranked, 100L);
    }

    public int share(int cost, int basin) throws IndexOutOfBoundsException, IllegalArgumentException {
        needBasin(basin);
        needRange(cost, 0, 999999);
        return (int) land.partOf(cost, basin);
    }

    public long digest() {
        return land.sumOfAll();
    }

    public long digestAnew() {
        while (redone < noted) {
            again.act(notes, redone * NOTE);
            redone++;
        }
        return again.sumOfAll();
    }

    // ---- the noted calls

    /** Notes a call; tells where. What comes behind the last call goes to a row that is not kept. */
    private int note(int kind, int a, int b, int c, int d, int e) {
        int at = noted * NOTE;
        if (at < 0 || at + NOTE > notes.length) {
            return -1;
        }
        notes[at] = kind;
        notes[at + 1] = a;
        notes[at + 2] = b;
        notes[at + 3] = c;
        notes[at + 4] = d;
        notes[at + 5] = e;
        if (noted < MOST_CALLS) {
            noted++;
        }
        return at;
    }

    // ---- what a call needs

    private void needRange(int value, int least, int most) {
        if (value < least || value > most) {
            throw new IllegalArgumentException("out of range");
        }
    }

    private void needDifferent(int one, int another) {
        if (one == another) {
            throw new IllegalArgumentException("both are the same");
        }
    }

    private void needState(boolean holds) {
        if (!holds) {
            throw new IllegalStateException("not now");
        }
    }

    private void needRoom(int count, int most) {
        if (count >= most) {
            throw new IllegalStateException("no more room");
        }
    }

    private void needMoney(int cost) {
        if (land.books.money < cost) {
            throw new IllegalStateException("not enough money");
        }
    }

    private void needEnd(int end) {
        if (!land.waters.isEnd(end)) {
            throw new IndexOutOfBoundsException("no such end");
        }
    }

    private void needWay(int first, int second) {
        needEnd(first);
        needEnd(second);
        needDifferent(first, second);
        if (land.waters.basinAt(first) == null && land.waters.basinAt(second) == null) {
            throw new IllegalArgumentException("no end is a basin");
        }
    }

    private Basin needBasin(int number) {
        Basin basin = land.waters.basinAt(number);
        if (basin == null) {
            throw new IndexOutOfBoundsException("no such basin");
        }
        return basin;
    }

    private Gate needGate(int number) {
        Gate gate = land.gateAt(number);
        if (gate == null) {
            throw new IndexOutOfBoundsException("no such gate");
        }
        return gate;
    }

    private Pump needPump(int number) {
        Pump pump = land.pumpAt(number);
        if (pump == null) {
            throw new IndexOutOfBoundsException("no such pump");
        }
        return pump;
    }

    private Dyke needDyke(int number) {
        Dyke dyke = land.dykeAt(number);
        if (dyke == null) {
            throw new IndexOutOfBoundsException("no such dyke");
        }
        return dyke;
    }

    private Crew needCrew(int number) {
        Crew crew = land.crewAt(number);
        if (crew == null) {
            throw new IndexOutOfBoundsException("no such crew");
        }
        return crew;
    }

    // ---- the land

    /** All that is; each call that changes something comes here as a note: a kind and its arguments. */
    private static final class Land {
        final Waters waters = new Waters();
        final Books books = new Books();
        private final Gate[] gates = new Gate[MOST_WAYS];
        int gateCount;
        private final Pump[] pumps = new Pump[MOST_WAYS];
        int pumpCount;
        private final Dyke[] dykes = new Dyke[MOST_WAYS];
        int dykeCount;
        private final Crew[] crews = new Crew[MOST_CREWS];
        private final Roads roads = new Roads();

        Land() {
            for (int i = 0; i < crews.length; i++) {
                crews[i] = new Crew();
            }
        }

        Gate gateAt(int number) {
            return number < 0 || number >= gates.length ? null : gates[number];
        }

        Pump pumpAt(int number) {
            return number < 0 || number >= pumps.length ? null : pumps[number];
        }

        Dyke dykeAt(int number) {
            return number < 0 || number >= dykes.length ? null : dykes[number];
        }

        Crew crewAt(int number) {
            return number < 0 || number >= crews.length ? null : crews[number];
        }

        long act(int[] notes, int at) {
            if (at < 0 || at + NOTE > notes.length) {
                return 0;
            }
            int a = notes[at + 1];
            int b = notes[at + 2];
            int c = notes[at + 3];
            int d = notes[at + 4];
            int e = notes[at + 5];
            switch (notes[at]) {
                case ADD_BASIN: return waters.newBasin(a, b);
                case SET_LAND: return waters.layOut(a, b, c, d);
                case POUR: return waters.pourInto(a, b);
                case ROAD: return roads.build(a, b, c != 0) ? 1 : 0;
                case ADD_GATE: return newGate(a, b, c, d);
                case ADD_PUMP: return newPump(new Pump(a, b, c, d, e));
                case ADD_DYKE: return newDyke(new Dyke(a, b, c, d, e));
                case SET_OUTSIDE: return waters.layOutside(a, b, c);
                case STORM: return waters.tellStorm(a, b, c);
                case RAIN: return waters.tellRain(a, b, c, d);
                case SET_SEED: return waters.outside.sow(a);
                case COMMAND: return order(gateAt(a), b != 0, c);
                case DRIVE: return switchPump(pumpAt(a), b != 0, c);
                case MEND: return mendPump(pumpAt(a));
                case SEND: return sendCrew(crewAt(a), b, c);
                case BUDGET: return books.grant(a, b);
                case RAISE: return books.beginWork(dykeAt(a), b, c);
                case RUN: return passHours(a);
                case END_YEAR: return closeYear();
                default: return 0;
            }
        }

        private int newGate(int first, int second, int amount, int rank) {
            if (gateCount < 0 || gateCount >= gates.length) {
                return -1;
            }
            gates[gateCount] = new Gate(first, second, amount, rank);
            return gateCount++;
        }

        private int newPump(Pump pump) {
            if (pumpCount < 0 || pumpCount >= pumps.length) {
                return -1;
            }
            pumps[pumpCount] = pump;
            return pumpCount++;
        }

        private int newDyke(Dyke dyke) {
            if (dykeCount < 0 || dykeCount >= dykes.length) {
                return -1;
            }
            dykes[dykeCount] = dyke;
            return dykeCount++;
        }

        private int order(Gate gate, boolean isOpen, int rank) {
            return gate == null ? 0 : gate.obey(waters, isOpen, rank);
        }

        private int switchPump(Pump pump, boolean isOn, int fuel) {
            if (pump == null) {
                return 0;
            }
            books.money -= fuel;
            pump.on = isOn;
            pump.fuel += fuel;
            return pump.fuel;
        }

        private int mendPump(Pump pump) {
            if (pump == null) {
                return 0;
            }
            books.money -= MEND_COST;
            int before = pump.wear;
            pump.wear = 0;
            return before;
        }

        private int sendCrew(Crew crew, int dyke, int bags) {
            if (crew == null) {
                return 0;
            }
            books.money -= bags;
            crew.dyke = dyke;
            crew.bags += bags;
            return crew.bags;
        }

        private int passHours(int hours) {
            for (int i = 0; i < hours; i++) {
                waters.fallRain();
                for (int k = 0; k < gates.length; k++) {
                    if (gates[k] != null) {
                        gates[k].pass(waters);
                    }
                }
                for (int k = 0; k < pumps.length; k++) {
                    if (pumps[k] != null) {
                        pumps[k].work(waters);
                    }
                }
                for (int k = 0; k < dykes.length; k++) {
                    if (dykes[k] != null) {
                        dykes[k].hold(waters);
                    }
                }
                waters.countHarms();
                roads.lookAt(waters);
                for (int k = 0; k < crews.length; k++) {
                    if (crews[k] != null) {
                        crews[k].toil(dykeAt(crews[k].dyke), roads, waters);
                    }
                }
                books.noteSea(waters.sea);
                waters.endHour();
            }
            return waters.hour;
        }

        private int closeYear() {
            waters.sinkAll();
            books.close();
            return books.year;
        }

        /** The part of a basin in a cost: rounded down, and 1 more for the greatest rests. */
        long partOf(long cost, int basin) {
            long all = 0;
            for (int i = 0; i < MOST_BASINS; i++) {
                all += keptDry(i);
            }
            if (all <= 0) {
                return 0;
            }
            long left = cost;
            for (int i = 0; i < MOST_BASINS; i++) {
                left -= cost * keptDry(i) / all;
            }
            long mine = cost * keptDry(basin);
            long ahead = 0;
            for (int i = 0; i < MOST_BASINS; i++) {
                long rest = cost * keptDry(i) % all;
                if (rest > mine % all || rest == mine % all && i < basin) {
                    ahead++;
                }
            }
            return mine / all + (ahead < left ? 1 : 0);
        }

        /** Area times depth of a basin that a dyke of the sea keeps dry; 0 of others. */
        private long keptDry(int number) {
            Basin basin = waters.basinAt(number);
            if (basin == null || !hasSeaDyke(number)) {
                return 0;
            }
            long depth = highSea() - basin.ground;
            return depth <= 0 ? 0 : depth * basin.area;
        }

        private boolean hasSeaDyke(int basin) {
            for (int i = 0; i < dykes.length; i++) {
                if (dykes[i] != null && dykes[i].joins(SEA, basin)) {
                    return true;
                }
            }
            return false;
        }

        private long highSea() {
            long greatest = books.greatestOfAll();
            return greatest == Long.MIN_VALUE ? waters.outside.highTide() : Math.floorDiv(greatest, 100L);
        }

        long sumOfAll() {
            long sum = 7;
            sum = sum * 31 + waters.hour;
            sum = sum * 31 + books.money;
            sum = waters.sumBasins(sum);
            for (int i = 0; i < dykes.length; i++) {
                if (dykes[i] != null) {
                    sum = dykes[i].sumDyke(sum);
                }
            }
            for (int i = 0; i < pumps.length; i++) {
                if (pumps[i] != null) {
                    sum = pumps[i].sumPump(sum);
                }
            }
            return sum;
        }
    }

    // ---- water

    /** A basin; heights are in hundredths, the ground in whole ones. */
    private static final class Basin {
        final int area;
        int ground;
        long water;
        int sinks;
        int floor = 100;
        int worth;
        long harm;

        Basin(int area, int ground) {
            this.area = area < 1 ? 1 : area;
            this.ground = ground;
        }

        long height() {
            return 100L * ground + (area < 1 ? 0 : 100 * water / area);
        }

        long aboveFloor() {
            return height() - 100L * ground - floor;
        }

        void countHarm() {
            long above = aboveFloor();
            if (worth > 0 && above > 0) {
                harm += worth * (Math.min(above / 50, 9L) + 1);
            }
        }
    }

    /** The basins, what is outside, the rains, and how much water went where. */
    private static final class Waters {
        private final Basin[] basins = new Basin[MOST_BASINS];
        int basinCount;
        final Outside outside = new Outside();
        private final Spell[] rains = new Spell[MOST_SPELLS];
        int rainCount;
        private final long[] ledger = new long[WENT_OUT + 1];
        int hour;
        /** The level of the sea in this hour. */
        long sea = outside.seaAt(0);

        Basin basinAt(int number) {
            return number < 0 || number >= basins.length ? null : basins[number];
        }

        boolean isEnd(int end) {
            return end == SEA || end == RIVER || basinAt(end) != null;
        }

        int newBasin(int area, int ground) {
            if (basinCount < 0 || basinCount >= basins.length) {
                return -1;
            }
            basins[basinCount] = new Basin(area, ground);
            return basinCount++;
        }

        int layOut(int number, int sinks, int floor, int worth) {
            Basin basin = basinAt(number);
            if (basin != null) {
                basin.sinks = sinks;
                basin.floor = floor;
                basin.worth = worth;
            }
            return 0;
        }

        long pourInto(int number, int litres) {
            return bring(number, litres, POURED);
        }

        int tellRain(int basin, int begin, int length, int litres) {
            if (rainCount < 0 || rainCount >= rains.length) {
                return rainCount;
            }
            rains[rainCount] = new Spell(begin, length, litres, basin);
            rainCount++;
            return rainCount;
        }

        int layOutside(int mean, int range, int river) {
            outside.lay(mean, range, river);
            sea = outside.seaAt(hour);
            return 0;
        }

        int tellStorm(int begin, int length, int peak) {
            int told = outside.addStorm(begin, length, peak);
            sea = outside.seaAt(hour);
            return told;
        }

        void endHour() {
            hour++;
            sea = outside.seaAt(hour);
        }

        void fallRain() {
            for (int i = 0; i < rains.length; i++) {
                if (rains[i] != null && rains[i].goesAt(hour)) {
                    bring(rains[i].basin, rains[i].amount, RAINED);
                }
            }
        }

        private long bring(int number, int litres, int how) {
            Basin basin = basinAt(number);
            if (basin == null) {
                return 0;
            }
            basin.water += litres;
            count(how, litres);
            return basin.water;
        }

        private void count(int what, long litres) {
            if (what >= 0 && what < ledger.length) {
                ledger[what] += litres;
            }
        }

        long came(int what) {
            return what < 0 || what >= ledger.length ? 0 : ledger[what];
        }

        long heightOf(int end) {
            if (end == SEA) {
                return sea;
            }
            if (end == RIVER) {
                return outside.river;
            }
            Basin basin = basinAt(end);
            return basin == null ? 0 : basin.height();
        }

        /** By how much the first end stands above the second one. */
        long above(int first, int second) {
            return heightOf(first) - heightOf(second);
        }

        /** Whether the way is one to the sea, and the sea is higher than its basin. */
        boolean seaPresses(int first, int second) {
            return first == SEA && above(first, second) > 0 || second == SEA && above(second, first) > 0;
        }

        /** The most that an end can give; what is outside does not end. */
        long stockOf(int end) {
            Basin basin = basinAt(end);
            return basin == null ? Long.MAX_VALUE : basin.water;
        }

        /** Lets water go from the higher end to the other one, at most so much; tells how much went. */
        long levelOut(int first, int second, long most) {
            long above = heightOf(first) - heightOf(second);
            int high = above >= 0 ? first : second;
            int low = above >= 0 ? second : first;
            long wanted = Math.min(most, levelling(high, low, Math.abs(above)));
            long litres = Math.min(wanted, stockOf(high));
            if (litres <= 0) {
                return 0;
            }
            move(high, low, litres);
            return litres;
        }

        /** What would go at most, if the higher end had enough. */
        private long levelling(int high, int low, long difference) {
            Basin from = basinAt(high);
            Basin to = basinAt(low);
            if (from == null) {
                return to == null ? 0 : difference * to.area / 100;
            }
            if (to == null) {
                return difference * from.area / 100;
            }
            long both = from.area + to.area;
            return both <= 0 ? 0 : difference * from.area * to.area / both / 100;
        }

        void move(int from, int to, long litres) {
            Basin giver = basinAt(from);
            Basin taker = basinAt(to);
            if (giver == null) {
                count(CAME_IN, litres);
            } else {
                giver.water -= litres;
            }
            if (taker == null) {
                count(WENT_OUT, litres);
            } else {
                taker.water += litres;
            }
        }

        void countHarms() {
            for (int i = 0; i < basins.length; i++) {
                if (basins[i] != null) {
                    basins[i].countHarm();
                }
            }
        }

        void sinkAll() {
            for (int i = 0; i < basins.length; i++) {
                if (basins[i] != null) {
                    basins[i].ground -= basins[i].sinks;
                }
            }
        }

        long sumBasins(long sum) {
            long all = sum;
            for (int i = 0; i < basins.length; i++) {
                if (basins[i] != null) {
                    all = all * 31 + basins[i].water;
                    all = all * 31 + basins[i].height();
                    all = all * 31 + basins[i].harm;
                }
            }
            return all;
        }
    }

    /** The sea with its tides and storms, the river, and the forecasts. */
    private static final class Outside {
        private int mean;
        private int range = 100;
        int river;
        private int seed = 1;
        private final Spell[] storms = new Spell[MOST_SPELLS];
        int stormCount;

        void lay(int mean, int range, int river) {
            this.mean = mean;
            this.range = range;
            this.river = river;
        }

        int addStorm(int begin, int length, int peak) {
            if (stormCount < 0 || stormCount >= storms.length) {
                return stormCount;
            }
            storms[stormCount] = new Spell(begin, length, peak, -1);
            stormCount++;
            return stormCount;
        }

        int sow(int next) {
            int before = seed;
            seed = next;
            return before;
        }

        long seaAt(int hour) {
            return 100L * (mean + tideAt(hour)) + greatestSurge(hour);
        }

        private int tideAt(int hour) {
            int p = hour % 12;
            int risen = p <= 6 ? p : 12 - p;
            return range * risen / 6 - range / 2;
        }

        private long greatestSurge(int hour) {
            long greatest = 0;
            for (int i = 0; i < storms.length; i++) {
                if (storms[i] != null) {
                    greatest = Math.max(greatest, storms[i].surgeAt(hour));
                }
            }
            return greatest;
        }

        long highTide() {
            return mean + range;
        }

        long foresee(int hour, int ahead) {
            int x = (75 * hour + 1009 * ahead + seed) % 65537;
            int spread = 2 * ahead + 1;
            int error = spread <= 0 ? 0 : x % spread - ahead;
            return seaAt(hour + ahead) + 10L * error;
        }
    }

    /** A storm with its peak, or a rain with its litres and basin. */
    private static final class Spell {
        private final int begin;
        private final int length;
        final int amount;
        final int basin;

        Spell(int begin, int length, int amount, int basin) {
            this.begin = begin;
            this.length = length;
            this.amount = amount;
            this.basin = basin;
        }

        boolean goesAt(int hour) {
            return hour >= begin && hour - begin < length;
        }

        long surgeAt(int hour) {
            int since = hour - begin;
            int left = length - since;
            if (since < 0 || left <= 0 || length < 0) {
                return 0;
            }
            return 100L * amount * Math.min(since + 1, left) * 2 / (length + 1);
        }
    }

    // ---- gates, pumps, dykes

    private static final class Gate {
        private final int first;
        private final int second;
        private final int amount;
        private final int rank;
        boolean open;

        Gate(int first, int second, int amount, int rank) {
            this.first = first;
            this.second = second;
            this.amount = amount;
            this.rank = rank;
        }

        /** Does what is commanded and answers 0, or tells why not. */
        int obey(Waters waters, boolean isOpen, int byRank) {
            if (byRank < rank) {
                return 1;
            }
            if (isOpen && waters.seaPresses(first, second)) {
                return 2;
            }
            if (isOpen && byRank < 3 && lowerHasWorth(waters)) {
                return 3;
            }
            open = isOpen;
            return 0;
        }

        private boolean lowerHasWorth(Waters waters) {
            long above = waters.above(first, second);
            if (above == 0) {
                return false;
            }
            Basin lower = waters.basinAt(above > 0 ? second : first);
            return lower != null && lower.worth > 0;
        }

        void pass(Waters waters) {
            if (open && waters.seaPresses(first, second)) {
                open = false;
            }
            if (open) {
                waters.levelOut(first, second, amount);
            }
        }
    }

    private static final class Pump {
        private final int first;
        private final int second;
        private final int amount;
        private final int head;
        private final int limit;
        boolean on;
        int fuel;
        int wear;

        Pump(int first, int second, int amount, int head, int limit) {
            this.first = first;
            this.second = second;
            this.amount = amount;
            this.head = head;
            this.limit = limit;
        }

        void work(Waters waters) {
            if (!on || fuel <= 0 || wear >= limit) {
                return;
            }
            long litres = Math.min(amount, waters.stockOf(first));
            if (litres <= 0 || waters.above(second, first) > 100L * head) {
                return;
            }
            waters.move(first, second, litres);
            fuel--;
            wear++;
        }

        long sumPump(long sum) {
            return (sum * 31 + fuel) * 31 + wear;
        }
    }

    private static final class Dyke {
        private static final int WIDEST = 10;
        private final int first;
        private final int second;
        int crest;
        private final int strength;
        private final int seepage;
        long damage;
        /** 0 as long as the dyke is whole. */
        int breach;

        Dyke(int first, int second, int crest, int strength, int seepage) {
            this.first = first;
            this.second = second;
            this.crest = crest;
            this.strength = strength;
            this.seepage = seepage;
        }

        boolean joins(int one, int another) {
            return first == one && second == another || first == another && second == one;
        }

        /** Where crews stand who work at it: its first end that is a basin. */
        int workplace(Waters waters) {
            return waters.basinAt(first) != null ? first : second;
        }

        void hold(Waters waters) {
            if (breach > 0) {
                waters.levelOut(first, second, 50L * breach);
                breach = Math.min(breach + 1, WIDEST);
                return;
            }
            long difference = Math.abs(waters.above(first, second));
            waters.levelOut(first, second, difference * seepage / 1000);
            if (flowsOver(waters)) {
                damage += 20;
            }
            if (difference >= 200) {
                damage += difference / 100;
            }
            if (damage >= strength) {
                breach = 1;
            }
        }

        private boolean flowsOver(Waters waters) {
            int high = waters.above(first, second) >= 0 ? first : second;
            long above = waters.heightOf(high) - 100L * crest;
            if (above <= 0) {
                return false;
            }
            Basin basin = waters.basinAt(high);
            long most = basin == null ? 500 : Math.min(500L, above * basin.area / 100);
            return waters.levelOut(first, second, most) > 0;
        }

        boolean isHurt() {
            return breach > 0 || damage > 0;
        }

        void bag() {
            if (breach <= 0) {
                damage = Math.max(0L, damage - 15);
                return;
            }
            breach = Math.max(0, breach - 3);
            if (breach == 0) {
                damage = 0;
            }
        }

        long sumDyke(long sum) {
            return ((sum * 31 + crest) * 31 + damage) * 31 + breach;
        }
    }

    // ---- crews

    private static final class Crew {
        int basin;
        int bags = 10;
        int dyke = -1;

        /** Works if it is there, otherwise goes one road. */
        void toil(Dyke sentTo, Roads roads, Waters waters) {
            if (sentTo == null) {
                return;
            }
            int goal = sentTo.workplace(waters);
            if (basin != goal) {
                basin = roads.nextFrom(basin, goal);
            } else if (bags > 0 && sentTo.isHurt()) {
                bags--;
                sentTo.bag();
            }
        }
    }

    /** The roads between basins, and the shortest ways by those that are not cut. */
    private static final class Roads {
        private final boolean[] built = new boolean[MOST_BASINS * MOST_BASINS];
        private final boolean[] dry = new boolean[MOST_BASINS];
        private final int[] far = new int[MOST_BASINS];

        private boolean isBuilt(int one, int another) {
            int at = one * MOST_BASINS + another;
            return at >= 0 && at < built.length && built[at];
        }

        boolean build(int one, int another, boolean is) {
            boolean was = isBuilt(one, another);
            put(one * MOST_BASINS + another, is);
            put(another * MOST_BASINS + one, is);
            return was;
        }

        private void put(int at, boolean is) {
            if (at >= 0 && at < built.length) {
                built[at] = is;
            }
        }

        /** Sees which roads are cut: all those of a basin that stands too high. */
        void lookAt(Waters waters) {
            for (int i = 0; i < dry.length; i++) {
                Basin basin = waters.basinAt(i);
                dry[i] = basin != null && basin.aboveFloor() < 100;
            }
        }

        private boolean isFree(int one, int another) {
            if (one < 0 || one >= dry.length || another < 0 || another >= dry.length) {
                return false;
            }
            return dry[one] && dry[another] && isBuilt(one, another);
        }

        /** The next basin on the way to the goal; the same one, if there is no way. */
        int nextFrom(int from, int goal) {
            if (from < 0 || from >= far.length) {
                return from;
            }
            measure(goal);
            for (int i = 0; i < far.length; i++) {
                if (far[i] >= 0 && far[i] == far[from] - 1 && isFree(from, i)) {
                    return i;
                }
            }
            return from;
        }

        /** Notes of each basin by how many roads it is from the goal; -1 if there is no way. */
        private void measure(int goal) {
            for (int i = 0; i < far.length; i++) {
                far[i] = i == goal ? 0 : -1;
            }
            for (int roads = 0; roads < far.length; roads++) {
                for (int i = 0; i < far.length; i++) {
                    for (int next = 0; next < far.length; next++) {
                        if (far[i] == roads && far[next] < 0 && isFree(i, next)) {
                            far[next] = roads + 1;
                        }
                    }
                }
            }
        }
    }

    // ---- years

    /** The money, the works and the records. */
    private static final class Books {
        int money;
        private int yearly;
        int year;
        private long greatest = Long.MIN_VALUE;
        private final long[] records = new long[MOST_YEARS];
        /** The dyke of each work that goes on; null where there is none. */
        private final Dyke[] raised = new Dyke[MOST_WORKS];
        private final int[] raisedBy = new int[MOST_WORKS];
        private final int[] yearsLeft = new int[MOST_WORKS];

        int grant(int eachYear, int now) {
            yearly = eachYear;
            money += now;
            return money;
        }

        int countWorks() {
            int count = 0;
            for (int i = 0; i < MOST_WORKS; i++) {
                if (raised[i] != null) {
                    count++;
                }
            }
            return count;
        }

        int beginWork(Dyke dyke, int by, int years) {
            for (int i = 0; i < MOST_WORKS; i++) {
                if (raised[i] == null && dyke != null) {
                    raised[i] = dyke;
                    raisedBy[i] = by;
                    yearsLeft[i] = years;
                    money -= by * RAISE_COST;
                    return money;
                }
            }
            return money;
        }

        private void goOnWithWorks() {
            for (int i = 0; i < MOST_WORKS; i++) {
                if (raised[i] == null) {
                    continue;
                }
                yearsLeft[i]--;
                if (yearsLeft[i] <= 0) {
                    raised[i].crest += raisedBy[i];
                    raised[i] = null;
                }
            }
        }

        void noteSea(long height) {
            greatest = Math.max(greatest, height);
        }

        void close() {
            if (year < 0 || year >= records.length) {
                return;
            }
            money += yearly;
            goOnWithWorks();
            records[year] = greatest;
            greatest = Long.MIN_VALUE;
            year++;
        }

        long greatestIn(int ended) {
            return ended < 0 || ended >= records.length ? Long.MIN_VALUE : records[ended];
        }

        /** Long.MIN_VALUE if no year with an hour has ended. */
        long greatestOfAll() {
            long all = Long.MIN_VALUE;
            for (int i = 0; i < year; i++) {
                all = Math.max(all, greatestIn(i));
            }
            return all;
        }

        /** The greatest one of the last records that at least so many, itself too, come up to. */
        long rankedOf(int last, int rank) {
            long ranked = Long.MIN_VALUE;
            for (int i = year - last; i < year; i++) {
                if (greatestIn(i) > ranked && countLast(last, greatestIn(i)) >= rank) {
                    ranked = greatestIn(i);
                }
            }
            return ranked;
        }

        /** How many of the last records come up to a height. */
        private int countLast(int last, long height) {
            int count = 0;
            for (int i = year - last; i < year; i++) {
                if (greatestIn(i) >= height) {
                    count++;
                }
            }
            return count;
        }
    }
}
