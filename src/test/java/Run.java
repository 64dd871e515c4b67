import java.util.ArrayList;
import java.util.List;

/**
 * A run of calls on a new object for one sentence of the document, each answer held against what is due.
 * Behind each refused call it is looked at whether anything has changed: all calls ahead of it are made on
 * two objects, the refused one on one of them, and both have to answer every Probe alike.
 */
final class Run {
    private final Check check;
    private final String sentence;
    private final Detentionbureau x = new Detentionbureau();
    private final List<int[]> taken = new ArrayList<>();
    private int made;
    private int ships;
    private int visits;
    private int today;

    Run(Check check, String sentence) {
        this.check = check;
        this.sentence = sentence;
    }

    int today() {
        return today;
    }

    /** A call that is taken, with its answer; a boolean counts 1 or 0, what returns nothing 0. */
    Run due(String call, long want) {
        int[] read = Calls.read(call);
        long got = answer(read);
        check.due(sentence + ": " + call, got, want);
        learn(read, got);
        return this;
    }

    Run yes(String call) {
        return due(call, 1);
    }

    Run no(String call) {
        return due(call, 0);
    }

    /** Calls that are taken, whatever they answer. */
    Run told(String... calls) {
        for (String call : calls) {
            int[] read = Calls.read(call);
            long got = answer(read);
            check.due(sentence + ": " + call + " " + Calls.told(got) + ", though it is to be taken", got < Calls.THREW, true);
            learn(read, got);
        }
        return this;
    }

    Run noIndex(String... calls) {
        return refused(Calls.NO_INDEX, calls);
    }

    Run noArgument(String... calls) {
        return refused(Calls.NO_ARGUMENT, calls);
    }

    Run noState(String... calls) {
        return refused(Calls.NO_STATE, calls);
    }

    Run pass(int days) {
        for (int left = days; left > 0; left -= 500) {
            told("pass(" + Math.min(left, 500) + ")");
        }
        return this;
    }

    /** All five, of a term that has no anniversary. */
    Run certify(int ship) {
        for (int family = 0; family < 5; family++) {
            told("issue(" + ship + ", " + family + ", 365)");
        }
        return this;
    }

    /** A cargo ship with all certificates. */
    Run cargo(int flag, int body) {
        int ship = ships;
        return told("ship(0, 1000, 0, " + flag + ", " + body + ")").certify(ship);
    }

    /** Calls and is visited; the number of the visit. */
    int comes(int ship, int port) {
        int visit = visits;
        told("calls(" + ship + ", " + port + ")", "visit(" + ship + ")");
        return visit;
    }

    int stays(int ship, int port) {
        int visit = comes(ship, port);
        told("leaves(" + ship + ")");
        return visit;
    }

    /** Calls, is visited, found with a weight of 10 by the code 0, and DETAINED. */
    int detained(int ship, int port) {
        int visit = comes(ship, port);
        told("finds(" + visit + ", 0, 10)", "detain(" + visit + ")");
        return visit;
    }

    Run released(int ship, int visit) {
        return told("mends(" + visit + ", 0, false)", "release(" + ship + ")");
    }

    /** The whole of it, and away again. */
    int detention(int ship, int port) {
        int visit = detained(ship, port);
        released(ship, visit).told("leaves(" + ship + ")");
        return visit;
    }

    Run won(int visit) {
        return told("appeal(" + visit + ")", "vote(" + visit + ", true)", "vote(" + visit + ", true)");
    }

    private long answer(int[] call) {
        made++;
        check.due(sentence + ": at most 512 calls", made <= Calls.MOST_CALLS, true);
        return Calls.answer(x, call);
    }

    private void learn(int[] call, long got) {
        taken.add(call);
        String name = Calls.name(call[0]);
        if (name.equals("ship")) {
            ships++;
        } else if (name.equals("visit")) {
            visits++;
        } else if (name.equals("pass")) {
            today = (int) got;
        }
    }

    private Run refused(long want, String... calls) {
        for (String call : calls) {
            int[] read = Calls.read(call);
            long got = answer(read);
            check.due(sentence + ": " + call + " " + Calls.told(got) + ", due is " + Calls.told(want), got == want, true);
            nothingChanged(call, read);
        }
        return this;
    }

    private void nothingChanged(String refused, int[] read) {
        for (List<int[]> probe : Probe.all(ships, visits, today)) {
            Detentionbureau with = again();
            Detentionbureau without = again();
            Calls.answer(with, read);
            check.due(sentence + ": at most 512 calls", taken.size() + 1 + probe.size() <= Calls.MOST_CALLS, true);
            for (int[] call : probe) {
                long want = Calls.answer(without, call);
                String told = sentence + ": behind the refused " + refused + ", " + Calls.name(call[0])
                        + java.util.Arrays.toString(java.util.Arrays.copyOfRange(call, 1, call.length));
                check.due(told, Calls.answer(with, call), want);
            }
        }
    }

    private Detentionbureau again() {
        Detentionbureau again = new Detentionbureau();
        for (int[] call : taken) {
            Calls.answer(again, call);
        }
        return again;
    }
}
