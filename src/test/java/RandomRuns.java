import java.util.Random;

/** Random runs of 512 calls, each answer compared with the one that is due by the plain model. */
final class RandomRuns {
    private static final int RUNS = 1500;
    private static final int[] ENDS = {20, 21, 0, 1, 2, 3, 4, 5, 6, 7, 8, 19, 22, -1};

    private final Random random;
    private final Polderwardens real = new Polderwardens();
    private final Due due = new Due();
    private final StringBuilder calls = new StringBuilder();
    private final int care;

    private RandomRuns(int seed) {
        random = new Random(seed);
        care = seed % 4;
    }

    static void run(Check c) {
        for (int seed = 1; seed <= RUNS; seed++) {
            c.about("random run " + seed);
            String wrong = new RandomRuns(seed).compare();
            c.holds(wrong, wrong.isEmpty());
        }
    }

    private String compare() {
        String[] build = {"addBasin", "addBasin", "addBasin", "addBasin", "setOutside", "addGate", "addGate",
            "addPump", "addPump", "addDyke", "addDyke", "addDyke", "setLand", "setLand", "pour", "budget",
            "road", "road", "road", "road", "road"};
        String[] live = {"setLand", "pour", "road", "addBasin", "addGate", "addPump", "addDyke", "setOutside",
            "storm", "rain", "setSeed", "command", "command", "command", "drive", "drive", "drive", "mend",
            "send", "send", "send", "budget", "raise", "run", "run", "run", "run", "endYear"};
        String[] tell = {"level", "water", "harm", "ledger", "isOpen", "pump", "dyke", "crew", "sea", "forecast",
            "record", "nextHeight", "share", "share", "digest", "digestAnew", "hour", "money"};
        String wrong = "";
        for (int i = 0; i < 512 && wrong.isEmpty(); i++) {
            String[] from = i < 40 ? build : random.nextInt(3) == 0 ? tell : live;
            wrong = compare(i == 510 ? "digest" : i == 511 ? "digestAnew" : from[random.nextInt(from.length)]);
        }
        return wrong;
    }

    private String compare(String call) {
        int[] a = arguments(call);
        String want = due.answer(call, a);
        String got = Answers.of(real, call, a);
        calls.append(call).append(java.util.Arrays.toString(a)).append(' ');
        return want.equals(got) ? "" : calls + "is due " + want + ", answered " + got;
    }

    private int[] arguments(String call) {
        switch (call) {
            case "addBasin": return new int[] {some(1, 100), some(-20, 20) * (one(9) ? 25 : 1)};
            case "setLand": return new int[] {basin(), some(0, 20), some(0, one(3) ? 9999 : 200), some(0, 99)};
            case "pour": return new int[] {basin(), some(0, one(3) ? 1000000 : 5000)};
            case "road": return new int[] {basin(), basin(), random.nextInt(5) == 0 ? 0 : 1};
            case "addGate": return new int[] {end(), end(), some(1, one(2) ? 9999 : 300), some(0, 3)};
            case "addPump": return new int[] {end(), end(), some(1, one(2) ? 9999 : 300),
                some(0, one(2) ? 999 : 40), some(1, one(2) ? 999 : 5)};
            case "addDyke": return new int[] {end(), end(), one(4) ? some(-500, 999) : some(-20, 60),
                some(1, 999), some(0, 99)};
            case "setOutside": return new int[] {some(-99, 99) / (one(3) ? 1 : 5), some(0, one(3) ? 400 : 60),
                one(3) ? some(-9999, 99999) : some(-3000, 3000)};
            case "storm": return new int[] {one(3) ? some(0, 9999) : some(0, 400), some(1, 99), some(1, 500)};
            case "rain": return new int[] {basin(), one(3) ? some(0, 9999) : some(0, 400), some(1, 99),
                some(1, one(3) ? 9999 : 100)};
            case "setSeed": return new int[] {some(0, 9999)};
            case "command": return new int[] {number(), random.nextInt(2), some(0, 3)};
            case "drive": return new int[] {number(), random.nextInt(4) == 0 ? 0 : 1, some(0, 99)};
            case "mend": return new int[] {number()};
            case "send": return new int[] {some(0, 2), random.nextInt(8) == 0 ? -1 : number(), some(0, 99)};
            case "budget": return new int[] {some(0, 9999), some(0, one(2) ? 9999 : 300)};
            case "raise": return new int[] {number(), some(1, 99), some(1, 9)};
            case "run": return new int[] {one(3) ? some(1, 50) : some(1, 4)};
            default: return asked(call);
        }
    }

    private int[] asked(String call) {
        switch (call) {
            case "level": return new int[] {end()};
            case "water":
            case "harm": return new int[] {basin()};
            case "ledger": return new int[] {some(0, 3)};
            case "isOpen": return new int[] {number()};
            case "pump":
            case "dyke": return new int[] {number(), some(0, 2)};
            case "crew": return new int[] {some(0, 2), some(0, 2)};
            case "sea": return new int[] {one(2) ? some(0, 9999) : some(0, 400)};
            case "forecast": return new int[] {some(1, 48)};
            case "record": return new int[] {random.nextInt(22) - 1};
            case "nextHeight": return new int[] {some(1, one(3) ? 20 : 4), some(1, one(3) ? 20 : 4)};
            case "share": return new int[] {some(0, one(2) ? 999999 : 100), basin()};
            default: return new int[0];
        }
    }

    private boolean one(int of) {
        return random.nextInt(of) == 0;
    }

    /** Mostly in range, at times at its ends, seldom beyond. */
    private int some(int least, int most) {
        switch (random.nextInt(care == 0 ? 12 : 60)) {
            case 0: return least;
            case 1: return most;
            case 2: return least - 1;
            case 3: return most + 1;
            case 4: return random.nextInt();
            default: return least + random.nextInt(most - least + 1);
        }
    }

    private int basin() {
        return care == 0 || one(30) ? random.nextInt(10) - 1 : random.nextInt(4);
    }

    private int end() {
        return care == 0 || one(30) ? ENDS[random.nextInt(ENDS.length)] : ENDS[random.nextInt(6)];
    }

    private int number() {
        return care == 0 || one(20) ? random.nextInt(10) - 1 : random.nextInt(3);
    }
}
