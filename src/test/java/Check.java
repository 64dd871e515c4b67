/** Counts answers that are not as due, and ends the run by them. */
final class Check {
    private int asked;
    private int wrong;

    void due(String call, long got, long want) {
        asked++;
        if (got != want) {
            wrong++;
            System.out.println("  " + call + " answered " + got + ", due is " + want);
        }
    }

    void due(String call, boolean got, boolean want) {
        due(call, got ? 1 : 0, want ? 1 : 0);
    }

    void noIndex(String call, Runnable run) {
        thrown(call, run, IndexOutOfBoundsException.class);
    }

    void noArgument(String call, Runnable run) {
        thrown(call, run, IllegalArgumentException.class);
    }

    void noState(String call, Runnable run) {
        thrown(call, run, IllegalStateException.class);
    }

    /** The class itself is due, not one below it: the machine's own index exceptions are such. */
    private void thrown(String call, Runnable run, Class<?> want) {
        asked++;
        Class<?> got = null;
        try {
            run.run();
        } catch (RuntimeException e) {
            got = e.getClass();
        }
        if (got != want) {
            wrong++;
            System.out.println("  " + call + " threw " + got + ", due is " + want);
        }
    }

    void end() {
        System.out.println("  " + asked + " asked, " + wrong + " wrong");
        if (wrong != 0 || asked == 0) {
            System.exit(1);
        }
    }
}
