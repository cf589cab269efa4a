/** Counts answers that are due, and tells of each other one. */
final class Check {
    /** A call that may throw. */
    interface Call {
        void make();
    }

    private int passed;
    private int failed;
    private String about = "";

    void about(String what) {
        about = what;
    }

    void due(String call, long want, long got) {
        tell(call + " is due " + want + ", answered " + got, want == got);
    }

    void due(String call, boolean want, boolean got) {
        due(call, want ? 1 : 0, got ? 1 : 0);
    }

    void holds(String what, boolean is) {
        tell(what, is);
    }

    /**
     * The call throws exactly that exception, and changes nothing that the digest tells:
     * a whole picture would use up the 512 calls of the object (RandomRuns takes them).
     */
    void refuses(Polderwardens x, String call, Class<? extends RuntimeException> want, Call made) {
        long before = x.digest();
        Class<?> got = null;
        try {
            made.make();
        } catch (RuntimeException thrown) {
            got = thrown.getClass();
        }
        tell(call + " must throw " + want.getSimpleName() + ", threw " + got, want == got);
        tell(call + " changed something", before == x.digest());
    }

    void none(Polderwardens x, String call, Call made) {
        refuses(x, call, IndexOutOfBoundsException.class, made);
    }

    void wrong(Polderwardens x, String call, Call made) {
        refuses(x, call, IllegalArgumentException.class, made);
    }

    void notNow(Polderwardens x, String call, Call made) {
        refuses(x, call, IllegalStateException.class, made);
    }

    private void tell(String what, boolean holds) {
        if (holds) {
            passed++;
            return;
        }
        failed++;
        if (failed <= 100) {
            System.out.println("FAILED " + about + ": " + what);
        }
    }

    /** Prints how many passed and failed; tells whether none failed. */
    boolean close() {
        System.out.println(passed + " passed, " + failed + " failed");
        return failed == 0 && passed > 0;
    }
}
