/** Counts answers that are not as due, and ends the run by them. */
final class Check {
    private int asked;
    private int wrong;

    void due(String call, long got, long want) {
        asked++;
        if (got != want) {
            wrong++;
            System.out.println("  " + call + " answered " + got + ", due is " + want);
        }
    }

    void due(String call, boolean got, boolean want) {
        due(call, got ? 1 : 0, want ? 1 : 0);
    }

    void noIndex(String call, Runnable run) {
        thrown(call, run, IndexOutOfBoundsException.class);
    }

    void noArgument(String call, Runnable run) {
        thrown(call, run, IllegalArgumentException.class);
    }

    void noState(String call, Runnable run) {
        thrown(call, run, IllegalStateException.class);
    }

    /** Whether the class threw it by itself: the machine throws classes below these, a list just these. */
    static boolean isOwn(RuntimeException thrown) {
        StackTraceElement[] trace = thrown.getStackTrace();
        return trace.length > 0 && trace[0].getClassName().equals("Detentionbureau");
    }

    private void thrown(String call, Runnable run, Class<?> want) {
        asked++;
        Class<?> got = null;
        try {
            run.run();
        } catch (RuntimeException e) {
            got = isOwn(e) ? e.getClass() : RuntimeException.class;
        }
        if (got != want) {
            wrong++;
            System.out.println("  " + call + " threw " + got + ", due is " + want);
        }
    }

    void end() {
        System.out.println("  " + asked + " asked, " + wrong + " wrong");
        if (wrong != 0 || asked == 0) {
            System.exit(1);
        }
    }
}
