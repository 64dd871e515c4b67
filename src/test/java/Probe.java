import java.util.ArrayList;
import java.util.List;

/**
 * Calls that bring to light what an object holds, what is asked and what else only later answers show.
 * Each probe is made on an object of its own, so that none has more than its 512 calls.
 */
final class Probe {
    /** A bureau with many ships or visits is looked at by its first and its last ones alone. */
    private static final int FIRST = 7, LAST = 2;

    private final List<List<int[]>> all = new ArrayList<>();
    private final int[] ships;
    private final int[] visits;
    private final int today;
    private List<int[]> calls;

    private Probe(int ships, int visits, int today) {
        this.ships = some(ships);
        this.visits = some(visits);
        this.today = today;
    }

    static List<List<int[]>> all(int ships, int visits, int today) {
        Probe probe = new Probe(ships, visits, today);
        probe.asked();
        probe.grounds();
        probe.known();
        probe.roomLeft();
        probe.told();
        probe.endorsed();
        probe.lapses();
        probe.voted(1);
        probe.voted(0);
        probe.appealed();
        probe.mended();
        probe.found();
        probe.detained();
        probe.goesOn(visits);
        probe.freed();
        for (int ship : probe.ships) {
            probe.bansToCome(ship, visits);
        }
        return probe.all;
    }

    private static int[] some(int count) {
        List<Integer> some = new ArrayList<>();
        for (int i = 0; i < count; i++) {
            if (i < FIRST || i >= count - LAST) {
                some.add(i);
            }
        }
        return some.stream().mapToInt(Integer::intValue).toArray();
    }

    private void begin() {
        calls = new ArrayList<>();
        all.add(calls);
    }

    private void add(String name, int... arguments) {
        int[] call = new int[arguments.length + 1];
        call[0] = Calls.which(name);
        System.arraycopy(arguments, 0, call, 1, arguments.length);
        calls.add(call);
    }

    private void asked() {
        begin();
        for (int ship : ships) {
            ofShip(ship, 0, 7);
            add("pointsAnew", ship);
        }
        for (int visit : visits) {
            for (int what = 0; what < 7; what++) {
                add("ofVisit", visit, what);
            }
        }
        for (int flag = 0; flag < 6; flag++) {
            add("list", flag);
        }
        for (int port = 0; port < 4; port++) {
            add("missed", port);
        }
        add("pass", 1);
    }

    private void ofShip(int ship, int from, int to) {
        for (int what = from; what <= to; what++) {
            add("ofShip", ship, what);
        }
    }

    private void grounds() {
        begin();
        for (int ship : ships) {
            for (int code = 0; code < 10; code++) {
                add("isGround", ship, code);
            }
        }
    }

    private void known() {
        begin();
        for (int ship : ships) {
            for (int port = 0; port < 4; port++) {
                add("knew", ship, port, today);
                add("knew", ship, port, Math.max(0, today - 3));
            }
        }
    }

    private void roomLeft() {
        begin();
        for (int i = 0; i < 13; i++) {
            add("ship", 0, 100, 0, 0, 0);
        }
        for (int i = 0; i < 21; i++) {
            add("rule", 0, 0, 1, 0, 0);
        }
    }

    private void told() {
        begin();
        for (int ship : ships) {
            add("changes", ship, 0, 0);
        }
        for (int body = 0; body < 4; body++) {
            add("suspend", body, 1);
        }
    }

    private void endorsed() {
        begin();
        for (int ship : ships) {
            for (int family = 0; family < 5; family++) {
                add("endorse", ship, family);
            }
            add("ofShip", ship, 7);
            for (int family = 4; family >= 0; family--) {
                add("issue", ship, family, 100);
            }
        }
    }

    private void lapses() {
        begin();
        for (int i = 0; i < 24; i++) {
            add("pass", i < 4 ? 1 : i < 8 ? 30 : 100);
            for (int j = 0; j < Math.min(2, ships.length); j++) {
                add("ofShip", ships[j], 7);
                add("ofShip", ships[j], 5);
                add("ofShip", ships[j], 2);
            }
        }
    }

    private void voted(int isFor) {
        begin();
        for (int visit : visits) {
            for (int i = 0; i < 3; i++) {
                add("vote", visit, isFor);
                add("ofVisit", visit, 6);
            }
        }
    }

    private void appealed() {
        begin();
        for (int visit : visits) {
            add("appeal", visit);
            add("vote", visit, 0);
            add("vote", visit, 1);
            add("vote", visit, 1);
        }
    }

    private void mended() {
        begin();
        for (int visit : visits) {
            for (int finding = 0; finding < 13; finding += finding < 5 ? 1 : 3) {
                add("mends", visit, finding, 1);
                add("mends", visit, finding, 0);
            }
        }
    }

    private void found() {
        begin();
        for (int visit : visits) {
            for (int i = 0; i < 13; i++) {
                add("finds", visit, 0, 1);
            }
            add("ofVisit", visit, 3);
            add("ofVisit", visit, 4);
        }
    }

    private void detained() {
        begin();
        for (int visit : visits) {
            add("detain", visit);
        }
        for (int ship : ships) {
            add("release", ship);
            ofShip(ship, 3, 6);
            add("leaves", ship);
            add("calls", ship, 1);
        }
    }

    private void freed() {
        begin();
        for (int visit : visits) {
            for (int finding = 0; finding < 5; finding++) {
                add("mends", visit, finding, 0);
            }
        }
        for (int ship : ships) {
            add("release", ship);
            ofShip(ship, 5, 6);
        }
        for (int days : new int[] {90, 1, 269, 1}) {
            add("pass", days);
            for (int ship : ships) {
                add("ofShip", ship, 5);
            }
        }
    }

    private void bansToCome(int ship, int nextVisit) {
        begin();
        add("leaves", ship);
        add("pass", 91);
        for (int family = 0; family < 5; family++) {
            add("issue", ship, family, 365);
        }
        for (int visit = nextVisit; visit < nextVisit + 3; visit++) {
            add("calls", ship, 0);
            add("visit", ship);
            add("finds", visit, 0, 10);
            add("detain", visit);
            add("mends", visit, 0, 0);
            add("release", ship);
            add("ofShip", ship, 5);
            add("leaves", ship);
        }
        for (int days : new int[] {90, 1, 269, 1}) {
            add("pass", days);
            add("ofShip", ship, 5);
        }
    }

    private void goesOn(int nextVisit) {
        begin();
        int visit = nextVisit;
        for (int ship : ships) {
            add("leaves", ship);
            add("calls", ship, 2);
            add("visit", ship);
            add("ofShip", ship, 3);
            add("finds", visit, 0, 10);
            add("detain", visit);
            add("pass", 1);
            add("mends", visit, 0, 0);
            add("release", ship);
            ofShip(ship, 0, 6);
            visit++;
        }
        for (int port = 0; port < 4; port++) {
            add("missed", port);
        }
    }
}
