/** Counts and prints the answers that are not the ones that are due. */
final class Check {
    private int wrong = 0;
    private int looked = 0;

    void due(String call, long got, long want) {
        looked++;
        if (got != want) {
            wrong++;
            System.out.println(call + " answered " + got + ", due is " + want);
        }
    }

    void due(String call, double got, double want) {
        looked++;
        if (got != want) {
            wrong++;
            System.out.println(call + " answered " + got + ", due is " + want);
        }
    }

    void holds(String what, boolean isSo) {
        looked++;
        if (!isSo) {
            wrong++;
            System.out.println("does not hold: " + what);
        }
    }

    /** The call throws exactly this exception, and changes nothing. */
    void refused(StandTugs x, String call, Class<? extends RuntimeException> want, Runnable run) {
        long before = x.digest();
        Class<?> got = null;
        try {
            run.run();
        } catch (RuntimeException e) {
            got = e.getClass();
        }
        holds(call + " throws " + want.getSimpleName() + ", not " + got, got == want);
        holds(call + " changes nothing", x.digest() == before);
    }

    void outside(StandTugs x, String call, Runnable run) {
        refused(x, call, IndexOutOfBoundsException.class, run);
    }

    void illegal(StandTugs x, String call, Runnable run) {
        refused(x, call, IllegalArgumentException.class, run);
    }

    void unfit(StandTugs x, String call, Runnable run) {
        refused(x, call, IllegalStateException.class, run);
    }

    void end() {
        System.out.println(looked + " looked at, " + wrong + " wrong");
        if (wrong != 0) {
            System.exit(1);
        }
    }
}
