import java.util.ArrayList;
import java.util.List;

/**
 * The document once more, as slow and plain as can be: what happened is kept as it came, and each
 * question goes through all of it. It is what WalkTest holds the program against.
 */
final class Model {
    static final int NO_INDEX = 1, NO_ARGUMENT = 2, NO_STATE = 3;

    /** Thrown by the model alone, so that none of the machine's exceptions can pass for it. */
    static final class Refused extends Exception {
        private static final long serialVersionUID = 1L;
        final int why;

        Refused(int why) {
            super("", null, false, false);
            this.why = why;
        }
    }

    /** One thing that happened: to a ship, or by a visit's number, on a day. No record: two alike are not the same. */
    private static final class Event {
        final String what;
        final int day, of, a, b, c;

        Event(String what, int day, int of, int a, int b, int c) {
            this.what = what;
            this.day = day;
            this.of = of;
            this.a = a;
            this.b = b;
            this.c = c;
        }
    }

    private final List<Event> events = new ArrayList<>();
    private final List<int[]> ships = new ArrayList<>();
    private final List<int[]> rules = new ArrayList<>();
    private final List<int[]> visits = new ArrayList<>();
    private int day;

    private static void index(boolean good) throws Refused {
        if (!good) throw new Refused(NO_INDEX);
    }

    private static void argument(boolean good) throws Refused {
        if (!good) throw new Refused(NO_ARGUMENT);
    }

    private static void state(boolean good) throws Refused {
        if (!good) throw new Refused(NO_STATE);
    }

    private static boolean within(int x, int from, int to) {
        return from <= x && x <= to;
    }

    private void happens(String what, int of, int a, int b, int c) {
        events.add(new Event(what, day, of, a, b, c));
    }

    private List<Event> all(String what, int of) {
        List<Event> found = new ArrayList<>();
        for (Event e : events) {
            if (e.what.equals(what) && e.of == of) found.add(e);
        }
        return found;
    }

    private Event last(String what, int of) {
        List<Event> found = all(what, of);
        return found.isEmpty() ? null : found.get(found.size() - 1);
    }

    private boolean isShip(int ship) {
        return within(ship, 0, ships.size() - 1);
    }

    private boolean isVisit(int visit) {
        return within(visit, 0, visits.size() - 1);
    }

    // ---- what the calls do

    int pass(int days) throws Refused {
        argument(within(days, 1, 500));
        state(day + days <= 9000);
        day += days;
        return day;
    }

    int ship(int built, int size, int kind, int flag, int body) throws Refused {
        index(within(flag, 0, 5) && within(body, 0, 3));
        argument(within(built, -10000, day) && within(size, 100, 200000) && within(kind, 0, 2));
        state(ships.size() < 12);
        ships.add(new int[] {built, size, kind, flag, body});
        return ships.size() - 1;
    }

    int changes(int ship, int flag, int body) throws Refused {
        index(isShip(ship) && within(flag, 0, 5) && within(body, 0, 3));
        happens("changes", ship, flag, body, 0);
        return all("changes", ship).size();
    }

    int suspend(int body, boolean suspended) throws Refused {
        index(within(body, 0, 3));
        int was = suspended(body) ? 1 : 0;
        happens("suspend", body, suspended ? 1 : 0, 0, 0);
        return was;
    }

    int rule(int code, int size, int kinds, int from, int delay) throws Refused {
        argument(within(code, 0, 9) && within(size, 0, 200000) && within(kinds, 1, 7)
                && within(from, 0, 9000) && within(delay, 0, 3000));
        state(rules.size() < 20);
        rules.add(new int[] {code, size, kinds, from, delay});
        return rules.size() - 1;
    }

    int issue(int ship, int family, int term) throws Refused {
        index(isShip(ship));
        argument(within(family, 0, 4) && within(term, 1, 1825));
        state(!suspended(body(ship)));
        int on = hangsOn(family);
        state(on < 0 || !bad(ship, on));
        happens("issue", ship, family, term, body(ship));
        return day + term;
    }

    int endorse(int ship, int family) throws Refused {
        index(isShip(ship));
        argument(within(family, 0, 4));
        state(certificate(ship, family) != null && !bad(ship, family));
        Event certificate = certificate(ship, family);
        for (int at = certificate.day + 365; at < certificate.day + certificate.b; at += 365) {
            if (within(day, at - 90, at + 90) && !endorsed(ship, family, at)) {
                happens("endorse", ship, family, at, events.indexOf(certificate));
                int count = 0;
                for (Event e : all("endorse", ship)) {
                    if (e.a == family && e.c == events.indexOf(certificate)) count++;
                }
                return count;
            }
        }
        throw new Refused(NO_STATE);
    }

    int calls(int ship, int port) throws Refused {
        index(isShip(ship) && within(port, 0, 3));
        state(port(ship) == -1 && !banned(ship));
        int priority = priority(ship);
        happens("calls", ship, port, 0, 0);
        return priority;
    }

    int leaves(int ship) throws Refused {
        index(isShip(ship));
        state(port(ship) != -1 && !detained(ship));
        boolean missed = priority(ship) == 2 && visitHere(ship) == -1;
        if (missed) happens("missed", port(ship), 0, 0, 0);
        happens("leaves", ship, 0, 0, 0);
        return missed ? 1 : 0;
    }

    int visit(int ship) throws Refused {
        index(isShip(ship));
        state(port(ship) != -1 && visitHere(ship) == -1 && visits.size() < 60);
        boolean old = day - ships.get(ship)[0] > 4380;
        int depth = risk(ship) == 2 || old && ships.get(ship)[2] != 0 ? 2 : clearGrounds(ship) ? 1 : 0;
        visits.add(new int[] {ship, port(ship), day, depth, flag(ship)});
        happens("visit", ship, visits.size() - 1, 0, 0);
        return visits.size() - 1;
    }

    int finds(int visit, int code, int weight) throws Refused {
        index(isVisit(visit));
        argument(within(code, 0, 9) && within(weight, 1, 10));
        int ship = visits.get(visit)[0];
        state(visitHere(ship) == visit && ground(ship, code) && all("finds", visit).size() < 12);
        happens("finds", visit, code, weight, 0);
        return all("finds", visit).size() - 1;
    }

    int mends(int visit, int finding, boolean off) throws Refused {
        index(isVisit(visit) && within(finding, 0, all("finds", visit).size() - 1));
        state(!done("mended", visit, finding));
        if (off) {
            state(!done("put off", visit, finding) && all("finds", visit).get(finding).b < 8
                    && visitHere(visits.get(visit)[0]) == visit);
        }
        happens(off ? "put off" : "mended", visit, finding, 0, 0);
        return open(visit, false);
    }

    int detain(int visit) throws Refused {
        index(isVisit(visit));
        int ship = visits.get(visit)[0];
        state(visitHere(ship) == visit && last("detain", visit) == null);
        state(open(visit, true) >= 10 || badSet(ship) != 0);
        happens("detain", visit, 0, 0, 0);
        List<Integer> fresh = new ArrayList<>();
        for (int one = 0; one < visits.size(); one++) {
            if (counted(one, ship) && last("led", one) == null) fresh.add(one);
        }
        if (fresh.size() >= 3) {
            for (int one : fresh) happens("led", one, visit, 0, 0);
            happens("to be banned", visit, 0, 0, 0);
        }
        return detentions(ship);
    }

    int release(int ship) throws Refused {
        index(isShip(ship));
        state(detained(ship));
        int visit = visitHere(ship);
        state(open(visit, false) == 0 && badSet(ship) == 0);
        int fee = 100 * (day - last("detain", visit).day);
        happens("release", visit, fee, 0, 0);
        if (last("to be banned", visit) != null) happens("ban", ship, 0, 0, 0);
        return fee;
    }

    int appeal(int visit) throws Refused {
        index(isVisit(visit));
        state(last("detain", visit) != null && last("appeal", visit) == null
                && day - last("detain", visit).day <= 30);
        happens("appeal", visit, 0, 0, 0);
        return 0;
    }

    int vote(int visit, boolean isFor) throws Refused {
        index(isVisit(visit));
        state(last("appeal", visit) != null && decided(visit) == 0);
        happens("vote", visit, isFor ? 1 : 0, 0, 0);
        return decided(visit);
    }

    // ---- what is asked

    int ofShip(int ship, int what) throws Refused {
        index(isShip(ship));
        argument(within(what, 0, 7));
        int fees = 0;
        for (int visit = 0; visit < visits.size(); visit++) {
            Event release = last("release", visit);
            if (visits.get(visit)[0] == ship && release != null) fees += release.a;
        }
        int[] answers = {points(ship), risk(ship), priority(ship), port(ship), detained(ship) ? 1 : 0,
            banned(ship) ? 1 : 0, fees, badSet(ship)};
        return answers[what];
    }

    int pointsAnew(int ship) throws Refused {
        index(isShip(ship));
        return points(ship);
    }

    int isGround(int ship, int code) throws Refused {
        index(isShip(ship));
        argument(within(code, 0, 9));
        return ground(ship, code) ? 1 : 0;
    }

    int ofVisit(int visit, int what) throws Refused {
        index(isVisit(visit));
        argument(within(what, 0, 6));
        int[] of = visits.get(visit);
        int findings = all("finds", visit).size();
        int depth = of[3] == 0 && findings >= 3 ? 1 : of[3];
        int[] answers = {of[0], of[1], of[2], depth, findings, open(visit, false), counts(visit) ? 1 : 0};
        return answers[what];
    }

    int list(int flag) throws Refused {
        index(within(flag, 0, 5));
        return listOf(flag);
    }

    int missed(int port) throws Refused {
        index(within(port, 0, 3));
        return all("missed", port).size();
    }

    int knew(int ship, int port, int when) throws Refused {
        index(isShip(ship) && within(port, 0, 3));
        argument(within(when, 0, day));
        int known = 0;
        for (int visit = 0; visit < visits.size(); visit++) {
            int[] of = visits.get(visit);
            int from = of[1] == port ? of[2] : of[2] + 3;
            if (of[0] == ship && when >= from) known += all("finds", visit).size();
        }
        return known;
    }

    // ---- what these need

    private int flag(int ship) {
        Event told = last("changes", ship);
        return told == null ? ships.get(ship)[3] : told.a;
    }

    private int body(int ship) {
        Event told = last("changes", ship);
        return told == null ? ships.get(ship)[4] : told.b;
    }

    private boolean suspended(int body) {
        Event told = last("suspend", body);
        return told != null && told.a == 1;
    }

    private boolean ground(int ship, int code) {
        int[] of = ships.get(ship);
        for (int[] rule : rules) {
            boolean kind = rule[2] / (1 << of[2]) % 2 == 1;
            boolean begun = day >= rule[3] && (of[0] >= rule[3] || day >= rule[3] + rule[4]);
            if (rule[0] == code && of[1] >= rule[1] && kind && begun) return true;
        }
        return false;
    }

    private static int hangsOn(int family) {
        return new int[] {-1, 0, 1, 0, -1}[family];
    }

    private Event certificate(int ship, int family) {
        Event found = null;
        for (Event e : all("issue", ship)) {
            if (e.a == family) found = e;
        }
        return found;
    }

    private boolean endorsed(int ship, int family, int at) {
        int of = events.indexOf(certificate(ship, family));
        for (Event e : all("endorse", ship)) {
            if (e.a == family && e.b == at && e.c == of) return true;
        }
        return false;
    }

    private boolean bad(int ship, int family) {
        Event certificate = certificate(ship, family);
        if (certificate == null || suspended(certificate.c)) return true;
        int end = certificate.day + certificate.b;
        for (int at = certificate.day + 365; at < end; at += 365) {
            if (day >= at + 91 && !endorsed(ship, family, at)) return true;
        }
        int on = hangsOn(family);
        return day > end || on >= 0 && bad(ship, on);
    }

    private int badSet(int ship) {
        int set = 0;
        for (int family = 0; family < 5; family++) {
            if (bad(ship, family)) set += 1 << family;
        }
        return set;
    }

    private int port(int ship) {
        int port = -1;
        for (Event e : events) {
            if (e.of == ship && e.what.equals("calls")) port = e.a;
            if (e.of == ship && e.what.equals("leaves")) port = -1;
        }
        return port;
    }

    private int visitHere(int ship) {
        int here = -1;
        for (Event e : events) {
            if (e.of == ship && e.what.equals("visit")) here = e.a;
            if (e.of == ship && e.what.equals("leaves")) here = -1;
        }
        return here;
    }

    private boolean detained(int ship) {
        int here = visitHere(ship);
        return here != -1 && last("detain", here) != null && last("release", here) == null;
    }

    private boolean banned(int ship) {
        List<Event> bans = all("ban", ship);
        int[] days = {90, 360, 100000};
        for (int i = 0; i < bans.size(); i++) {
            if (day <= bans.get(i).day + days[Math.min(i, 2)]) return true;
        }
        return false;
    }

    private boolean done(String what, int visit, int finding) {
        for (Event e : all(what, visit)) {
            if (e.a == finding) return true;
        }
        return false;
    }

    /** How many findings of a visit are neither mended nor put off, or their weights. */
    private int open(int visit, boolean weights) {
        int sum = 0;
        List<Event> found = all("finds", visit);
        for (int i = 0; i < found.size(); i++) {
            if (!done("mended", visit, i) && !done("put off", visit, i)) sum += weights ? found.get(i).b : 1;
        }
        return sum;
    }

    private boolean clearGrounds(int ship) {
        if (badSet(ship) != 0) return true;
        for (Event off : events) {
            if (!off.what.equals("put off") || visits.get(off.of)[0] != ship || done("mended", off.of, off.a)) continue;
            List<Event> calls = all("calls", ship);
            if (events.indexOf(calls.get(calls.size() - 1)) > events.indexOf(off)) return true;
        }
        return false;
    }

    private int decided(int visit) {
        int isFor = 0;
        int against = 0;
        for (Event e : all("vote", visit)) {
            if (e.a == 1) isFor++; else against++;
        }
        return isFor == 2 ? 1 : against == 2 ? 2 : 0;
    }

    private boolean counts(int visit) {
        return last("detain", visit) != null && decided(visit) != 1;
    }

    private boolean counted(int visit, int ship) {
        int[] of = visits.get(visit);
        return of[0] == ship && day - of[2] < 1095 && counts(visit);
    }

    private int detentions(int ship) {
        int count = 0;
        for (int visit = 0; visit < visits.size(); visit++) {
            if (counted(visit, ship)) count++;
        }
        return count;
    }

    private int listOf(int flag) {
        int n = 0;
        int d = 0;
        for (int visit = 0; visit < visits.size(); visit++) {
            int[] of = visits.get(visit);
            if (of[4] != flag || day - of[2] >= 1095) continue;
            n++;
            if (counts(visit)) d++;
        }
        if (n < 6) return 0;
        long x = 100L * d - 7 * n - 50;
        long y = 7L * n - 50 - 100 * d;
        return x > 0 && x * x > 1762 * n ? 3 : y > 0 && y * y > 1762 * n ? 1 : 2;
    }

    private int points(int ship) {
        int[] of = ships.get(ship);
        int points = of[2];
        if (day - of[0] > 4380) points++;
        int list = listOf(flag(ship));
        if (list == 2) points++;
        if (list == 3) points += 2;
        if (suspended(body(ship))) points++;
        for (int visit = 0; visit < visits.size(); visit++) {
            int[] one = visits.get(visit);
            if (one[0] == ship && day - one[2] < 1095 && all("finds", visit).size() > 5) {
                points++;
                break;
            }
        }
        return points + Math.min(2, detentions(ship));
    }

    private int risk(int ship) {
        int points = points(ship);
        return points >= 5 ? 2 : points == 0 && listOf(flag(ship)) == 1 ? 0 : 1;
    }

    private int priority(int ship) {
        Event latest = last("visit", ship);
        if (latest == null) return 2;
        int went = day - latest.day;
        int risk = risk(ship);
        int[] begins = {720, 300, 150};
        int[] ends = {1080, 360, 180};
        return went > ends[risk] ? 2 : went >= begins[risk] ? 1 : 0;
    }
}
