/** Makes a call by its name; tells its answer as a text, or the name of what it throws. */
final class Answers {
    private Answers() {
    }

    static String of(Polderwardens x, String call, int... a) {
        try {
            return made(x, call, a);
        } catch (RuntimeException thrown) {
            return thrown.getClass().getSimpleName();
        }
    }

    private static String made(Polderwardens x, String call, int... a) {
        switch (call) {
            case "addBasin": return "" + x.addBasin(a[0], a[1]);
            case "setLand": x.setLand(a[0], a[1], a[2], a[3]); return "";
            case "pour": return "" + x.pour(a[0], a[1]);
            case "road": return x.road(a[0], a[1], a[2] == 1) ? "1" : "0";
            case "addGate": return "" + x.addGate(a[0], a[1], a[2], a[3]);
            case "addPump": return "" + x.addPump(a[0], a[1], a[2], a[3], a[4]);
            case "addDyke": return "" + x.addDyke(a[0], a[1], a[2], a[3], a[4]);
            case "setOutside": x.setOutside(a[0], a[1], a[2]); return "";
            case "storm": return "" + x.storm(a[0], a[1], a[2]);
            case "rain": return "" + x.rain(a[0], a[1], a[2], a[3]);
            case "setSeed": return "" + x.setSeed(a[0]);
            case "command": return "" + x.command(a[0], a[1] == 1, a[2]);
            case "drive": return "" + x.drive(a[0], a[1] == 1, a[2]);
            case "mend": return "" + x.mend(a[0]);
            case "send": return "" + x.send(a[0], a[1], a[2]);
            case "budget": return "" + x.budget(a[0], a[1]);
            case "raise": return "" + x.raise(a[0], a[1], a[2]);
            case "run": return "" + x.run(a[0]);
            case "endYear": return "" + x.endYear();
            default: return told(x, call, a);
        }
    }

    private static String told(Polderwardens x, String call, int... a) {
        switch (call) {
            case "hour": return "" + x.hour();
            case "money": return "" + x.money();
            case "level": return "" + x.level(a[0]);
            case "water": return "" + x.water(a[0]);
            case "harm": return "" + x.harm(a[0]);
            case "ledger": return "" + x.ledger(a[0]);
            case "isOpen": return x.isOpen(a[0]) ? "1" : "0";
            case "pump": return "" + x.pump(a[0], a[1]);
            case "dyke": return "" + x.dyke(a[0], a[1]);
            case "crew": return "" + x.crew(a[0], a[1]);
            case "sea": return "" + x.sea(a[0]);
            case "forecast": return "" + x.forecast(a[0]);
            case "record": return "" + x.record(a[0]);
            case "nextHeight": return "" + x.nextHeight(a[0], a[1]);
            case "share": return "" + x.share(a[0], a[1]);
            case "digest": return "" + x.digest();
            case "digestAnew": return "" + x.digestAnew();
            default: throw new UnsupportedOperationException("no such call: " + call);
        }
    }
}
