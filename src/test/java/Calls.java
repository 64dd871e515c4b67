import java.util.ArrayList;
import java.util.List;

/** The calls of the face by name, with whole numbers alone: true is 1, false 0, and what is thrown a number too. */
final class Calls {
    /** What a call answers that threw: this and one of the Model's reasons. */
    static final long THREW = 1L << 40;
    static final long NO_INDEX = THREW + Model.NO_INDEX;
    static final long NO_ARGUMENT = THREW + Model.NO_ARGUMENT;
    static final long NO_STATE = THREW + Model.NO_STATE;
    /** What no document tells: the machine threw, or another class. */
    static final long OTHER = THREW + 9;

    static final int MOST_CALLS = 512;

    private static final String[] NAMES = {"pass", "ship", "changes", "suspend", "rule", "issue", "endorse",
        "calls", "leaves", "visit", "finds", "mends", "detain", "release", "appeal", "vote", "ofShip",
        "pointsAnew", "isGround", "ofVisit", "list", "missed", "knew"};

    private Calls() {
    }

    static int count() {
        return NAMES.length;
    }

    static String name(int which) {
        return NAMES[which];
    }

    static int which(String name) {
        for (int which = 0; which < NAMES.length; which++) {
            if (NAMES[which].equals(name)) {
                return which;
            }
        }
        throw new IllegalArgumentException(name + " is no call of the face");
    }

    /** A call as it is written, "mends(0, 1, true)", with its place among the names first. */
    static int[] read(String call) {
        int open = call.indexOf('(');
        List<Integer> read = new ArrayList<>();
        read.add(which(call.substring(0, open)));
        for (String word : call.substring(open + 1, call.length() - 1).split(",")) {
            String argument = word.strip();
            read.add(argument.equals("true") ? 1 : argument.equals("false") ? 0 : Integer.parseInt(argument));
        }
        return read.stream().mapToInt(Integer::intValue).toArray();
    }

    static String told(long answer) {
        return answer == NO_INDEX ? "throws.IndexOutOfBoundsException"
                : answer == NO_ARGUMENT ? "throws.IllegalArgumentException"
                : answer == NO_STATE ? "throws.IllegalStateException"
                : answer == OTHER ? "throws what it may not" : Long.toString(answer);
    }

    static long answer(Detentionbureau x, int[] call) {
        try {
            return ask(x, call[0], java.util.Arrays.copyOfRange(call, 1, call.length));
        } catch (RuntimeException e) {
            return thrown(e);
        }
    }

    private static long thrown(RuntimeException e) {
        Class<?> thrown = Check.isOwn(e) ? e.getClass() : null;
        return thrown == IndexOutOfBoundsException.class ? NO_INDEX
                : thrown == IllegalArgumentException.class ? NO_ARGUMENT
                : thrown == IllegalStateException.class ? NO_STATE : OTHER;
    }

    private static long ask(Detentionbureau x, int which, int[] a) {
        switch (which) {
            case 0: return x.pass(a[0]);
            case 1: return x.ship(a[0], a[1], a[2], a[3], a[4]);
            case 2: return x.changes(a[0], a[1], a[2]);
            case 3: return x.suspend(a[0], a[1] == 1) ? 1 : 0;
            case 4: return x.rule(a[0], a[1], a[2], a[3], a[4]);
            case 5: return x.issue(a[0], a[1], a[2]);
            case 6: return x.endorse(a[0], a[1]);
            case 7: return x.calls(a[0], a[1]);
            case 8: return x.leaves(a[0]) ? 1 : 0;
            case 9: return x.visit(a[0]);
            case 10: return x.finds(a[0], a[1], a[2]);
            case 11: return x.mends(a[0], a[1], a[2] == 1);
            case 12: return x.detain(a[0]);
            case 13: return x.release(a[0]);
            case 14: x.appeal(a[0]); return 0;
            case 15: return x.vote(a[0], a[1] == 1);
            case 16: return x.ofShip(a[0], a[1]);
            case 17: return x.pointsAnew(a[0]);
            case 18: return x.isGround(a[0], a[1]) ? 1 : 0;
            case 19: return x.ofVisit(a[0], a[1]);
            case 20: return x.list(a[0]);
            case 21: return x.missed(a[0]);
            default: return x.knew(a[0], a[1], a[2]);
        }
    }
}
