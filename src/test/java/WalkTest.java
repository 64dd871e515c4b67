/**
 * Long runs of calls, the same in every run of the test, each answer held against the Model; and runs
 * far behind the 512th call, where the answers are free, but nothing may throw what the face does not tell.
 */
final class WalkTest {
    private static final int RUNS = 1500;
    private static final int LONG_RUNS = 12;
    private static final int LONG_CALLS = 20000;
    /** In a plan: the latest visit as the call's time comes. */
    private static final int LATEST = -77777;

    private static final int[] DAYS = {1, 1, 2, 3, 5, 10, 29, 30, 31, 60, 89, 90, 91, 150, 181, 274, 275, 300, 361, 365, 456, 500};
    private static final int[] TERMS = {1, 30, 365, 366, 700, 730, 731, 1000, 1825, 1825};
    private static final int[] EXTREMES = {Integer.MIN_VALUE, -1, Integer.MAX_VALUE, 13, 1 << 30, -4381};

    /** How often each call is tried. */
    private static final int[] OFTEN = {10, 2, 3, 2, 2, 9, 6, 12, 9, 12, 16, 12, 9, 9, 5, 8, 20, 6, 3, 10, 4, 2, 5};

    private final Check check;
    private final long[] answered = new long[Calls.count()];
    private final java.util.ArrayList<int[]> plan = new java.util.ArrayList<>();
    private long seed;
    private int ships;
    private int visits;
    private int days;
    private int wildness;
    private int pace;

    private WalkTest(Check check) {
        this.check = check;
    }

    public static void main(String[] args) {
        Check check = new Check();
        WalkTest walk = new WalkTest(check);
        for (int run = 1; run <= RUNS; run++) {
            walk.walk(run, new Model(), Calls.MOST_CALLS);
        }
        for (int call = 0; call < Calls.count(); call++) {
            check.due(Calls.name(call) + " was answered now and then", walk.answered[call] > RUNS, true);
        }
        for (int run = 1; run <= LONG_RUNS; run++) {
            walk.walk(-run, null, LONG_CALLS);
        }
        check.end();
    }

    private int below(int bound) {
        seed = seed * 6364136223846793005L + 1442695040888963407L;
        return (int) ((seed >>> 33) % bound);
    }

    /** Mostly of the range, at times outside it. */
    private int number(int from, int to) {
        if (below(wildness) == 0) {
            int pick = below(EXTREMES.length + 2);
            return pick < EXTREMES.length ? EXTREMES[pick] : pick == EXTREMES.length ? from - 1 : to + 1;
        }
        return to < from ? from : from + below(to - from + 1);
    }

    private int oneOf(int[] row) {
        return below(wildness) == 0 ? number(-1, 2000) : row[below(row.length)];
    }

    private void walk(int run, Model model, int calls) {
        seed = run * 7919L;
        ships = 0;
        visits = 0;
        days = 0;
        wildness = 20 + below(60);
        pace = 1 + below(12);
        plan.clear();
        Detentionbureau x = new Detentionbureau();
        for (int call = 0; call < calls; call++) {
            if (ships > 0 && plan.isEmpty() && below(8) == 0) {
                makePlan();
            }
            if (plan.isEmpty() || below(6) == 0) {
                int which = call < 3 ? 4 : call < 5 ? 1 : pick();
                step(run, call, which, arguments(which, call), x, model);
            } else {
                int[] planned = plan.remove(0);
                step(run, call, planned[0], planned(planned, visits - 1), x, model);
            }
        }
    }

    private static int[] planned(int[] call, int latest) {
        int[] a = java.util.Arrays.copyOfRange(call, 1, call.length);
        for (int i = 0; i < a.length; i++) {
            a[i] = a[i] == LATEST ? latest : a[i];
        }
        return a;
    }

    /** Some calls in a row that lead where calls by chance seldom come; now and then one of them is left out. */
    private void makePlan() {
        int ship = below(Math.min(ships, 2));
        int what = below(5);
        if (what < 2) {
            certify(ship);
        }
        if (what == 0) {
            for (int i = below(5); i >= 0; i--) {
                add(0, 275 + below(181));
                add(6, ship, Detentionbureau.CLASS);
                add(6, ship, below(5));
                add(16, ship, 7);
            }
        }
        for (int i = below(4); what > 0 && i > 0; i--) {
            certify(ship);
            add(7, ship, below(4));
            add(9, ship);
            add(10, LATEST, 0, 8 + below(3));
            add(10, LATEST, 0, 1 + below(7));
            add(12, LATEST);
            add(11, LATEST, 0, 0);
            add(11, LATEST, 1, below(2));
            add(13, ship);
            if (below(3) == 0) {
                add(14, LATEST);
                add(15, LATEST, below(2));
                add(15, LATEST, below(2));
            }
            add(16, ship, below(8));
            add(8, ship);
            if (below(2) == 0) {
                add(0, 80 + below(20));
            }
        }
    }

    private void certify(int ship) {
        for (int family = 0; family < 5; family++) {
            add(5, ship, family, below(2) == 0 ? 365 : 1825);
        }
    }

    private void add(int... call) {
        if (below(30) != 0) {
            plan.add(call);
        }
    }

    private int pick() {
        int sum = 0;
        for (int often : OFTEN) {
            sum += often;
        }
        int left = below(sum);
        int which = 0;
        while (left >= OFTEN[which]) {
            left -= OFTEN[which];
            which++;
        }
        return which == 0 && below(pace) != 0 ? 7 + below(7) : which;
    }

    /** Few ships, so that a file grows long; the latest visits, as the others can't do much. */
    private int aShip() {
        return number(0, below(3) == 0 ? ships - 1 : Math.min(ships - 1, 1));
    }

    private int aVisit() {
        return below(5) == 0 ? number(0, visits - 1) : number(Math.max(0, visits - 3), visits - 1);
    }

    private int[] arguments(int which, int call) {
        switch (which) {
            case 0: return new int[] {oneOf(DAYS)};
            case 1: return new int[] {below(2) == 0 ? number(-10000, days) : number(-4400, -4300),
                number(100, 2000), number(0, 2), number(0, 1), number(0, 3)};
            case 2: return new int[] {aShip(), number(0, below(2) == 0 ? 5 : 1), number(0, 3)};
            case 3: return new int[] {number(0, 3), below(3) == 0 ? 1 : 0};
            case 4: return call == 0 ? new int[] {0, 0, 7, 0, 0}
                : new int[] {number(0, 3), number(0, 1500), number(1, 7), number(0, 600), number(0, 300)};
            case 5: return new int[] {aShip(), number(0, 4), oneOf(TERMS)};
            case 6: return new int[] {aShip(), number(0, 4)};
            case 7: return new int[] {aShip(), number(0, 3)};
            case 10: return new int[] {aVisit(), below(3) == 0 ? number(0, 9) : 0, number(1, 10)};
            case 11: return new int[] {aVisit(), number(0, 3), below(3) == 0 ? 1 : 0};
            case 12: case 14: return new int[] {aVisit()};
            case 15: return new int[] {aVisit(), below(2)};
            case 16: return new int[] {aShip(), number(0, 7)};
            case 18: return new int[] {aShip(), number(0, 9)};
            case 19: return new int[] {aVisit(), number(0, 6)};
            case 20: return new int[] {number(0, 5)};
            case 21: return new int[] {number(0, 3)};
            case 22: return new int[] {aShip(), number(0, 3), number(Math.max(0, days - 10), days)};
            default: return new int[] {aShip()};
        }
    }

    private void step(int run, int call, int which, int[] a, Detentionbureau x, Model model) {
        String told = "run " + run + ", call " + call + ": " + Calls.name(which) + java.util.Arrays.toString(a);
        int[] whole = new int[a.length + 1];
        whole[0] = which;
        System.arraycopy(a, 0, whole, 1, a.length);
        long got = Calls.answer(x, whole);
        if (got < Calls.THREW) {
            learn(which, got);
        } else {
            check.due(told + " " + Calls.told(got) + ", as the face tells", documented(which, got), true);
        }
        if (model != null) {
            long want = due(model, which, a);
            answered[which] += want < Calls.THREW ? 1 : 0;
            check.due(told, got, want);
        }
    }

    private void learn(int which, long got) {
        if (which == 0) {
            days = (int) got;
        } else if (which == 1) {
            ships = (int) got + 1;
        } else if (which == 9) {
            visits = (int) got + 1;
        }
    }

    private static boolean documented(int which, long thrown) {
        Class<?> want = thrown == Calls.NO_INDEX ? IndexOutOfBoundsException.class
                : thrown == Calls.NO_ARGUMENT ? IllegalArgumentException.class
                : thrown == Calls.NO_STATE ? IllegalStateException.class : null;
        for (java.lang.reflect.Method method : Detentionbureau.class.getMethods()) {
            if (method.getName().equals(Calls.name(which))) {
                return java.util.List.of(method.getExceptionTypes()).contains(want);
            }
        }
        return false;
    }

    private static long due(Model m, int which, int[] a) {
        try {
            switch (which) {
                case 0: return m.pass(a[0]);
                case 1: return m.ship(a[0], a[1], a[2], a[3], a[4]);
                case 2: return m.changes(a[0], a[1], a[2]);
                case 3: return m.suspend(a[0], a[1] == 1);
                case 4: return m.rule(a[0], a[1], a[2], a[3], a[4]);
                case 5: return m.issue(a[0], a[1], a[2]);
                case 6: return m.endorse(a[0], a[1]);
                case 7: return m.calls(a[0], a[1]);
                case 8: return m.leaves(a[0]);
                case 9: return m.visit(a[0]);
                case 10: return m.finds(a[0], a[1], a[2]);
                case 11: return m.mends(a[0], a[1], a[2] == 1);
                case 12: return m.detain(a[0]);
                case 13: return m.release(a[0]);
                case 14: return m.appeal(a[0]);
                case 15: return m.vote(a[0], a[1] == 1);
                case 16: return m.ofShip(a[0], a[1]);
                case 17: return m.pointsAnew(a[0]);
                case 18: return m.isGround(a[0], a[1]);
                case 19: return m.ofVisit(a[0], a[1]);
                case 20: return m.list(a[0]);
                case 21: return m.missed(a[0]);
                default: return m.knew(a[0], a[1], a[2]);
            }
        } catch (Model.Refused e) {
            return Calls.THREW + e.why;
        }
    }
}
