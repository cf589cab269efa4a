/** Runs every test of the project; ends with 1 if one fails. */
public final class AllTests {
    private AllTests() {
    }

    public static void main(String[] args) {
        Check c = new Check();
        LandPromises.run(c);
        WayPromises.run(c);
        OutsidePromises.run(c);
        CommandPromises.run(c);
        HourPromises.run(c);
        YearPromises.run(c);
        TellPromises.run(c);
        EdgeArguments.run(c);
        EdgeCounts.run(c);
        EdgeWaters.run(c);
        EdgeDykes.run(c);
        EdgeCrews.run(c);
        EdgeYears.run(c);
        EdgeRefusals.run(c);
        RandomRuns.run(c);
        String root = args.length > 0 ? args[0] : ".";
        LanguageRules.run(c, root);
        ReadmeHolds.run(c, root);
        if (!c.close()) {
            System.exit(1);
        }
    }
}
