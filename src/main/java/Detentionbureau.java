import java.util.ArrayList;

/** Ships judged in harbour. What each call promises stands in ../shared/DOC.md. */
public final class Detentionbureau {
    public static final int NONE = -1;
    public static final int CARGO = 0, TANKER = 1, PASSENGER = 2;
    public static final int CLASS = 0, SAFETY = 1, RADIO = 2, LINE = 3, OIL = 4;
    public static final int LOW = 0, STANDARD = 1, HIGH = 2;
    public static final int INITIAL = 0, DETAILED = 1, EXPANDED = 2;
    public static final int UNLISTED = 0, WHITE = 1, GREY = 2, BLACK = 3;

    private static final int FLAGS = 6, BODIES = 4, PORTS = 4, FAMILIES = 5, CODES = 10;
    private static final int MOST_SHIPS = 12, MOST_RULES = 20, MOST_VISITS = 60, MOST_FINDINGS = 12;

    private static final int LAST_DAY = 9000, LONGEST_PASS = 500;
    private static final int EARLIEST_BUILT = -10000, OLD_BEHIND = 4380;
    private static final int LEAST_SIZE = 100, MOST_SIZE = 200000;
    private static final int ALL_KINDS = 7, LONGEST_DELAY = 3000;
    private static final int LONGEST_TERM = 1825, YEAR = 365, ROUND_ANNIVERSARY = 90;

    private static final int LATEST_DAYS = 1095;
    private static final int MANY_FINDINGS = 5, MOST_DETENTION_POINTS = 2, HIGH_FROM = 5;
    private static final int HEAVIEST = 10, TOO_HEAVY_TO_PUT_OFF = 8, DETAINABLE_FROM = 10;
    private static final int FINDINGS_TO_DETAIL = 3;

    private static final int FEE_A_DAY = 100, DETENTIONS_TO_BAN = 3;
    private static final int FIRST_BAN = 90, SECOND_BAN = 360;
    private static final int DAYS_TO_APPEAL = 30, VOTES_TO_DECIDE = 2, DAYS_TO_BE_KNOWN = 3;
    private static final int LEAST_LISTED = 6;

    private static final int ASKED_OF_SHIP = 8, ASKED_OF_VISIT = 7;

    private final ArrayList<Ship> ships;
    private final ArrayList<Rule> rules;
    private final ArrayList<Visit> visits;
    private final boolean[] suspendedBodies;
    private final int[] missedAtPorts;
    private int today;

    public Detentionbureau() {
        ships = new ArrayList<>();
        rules = new ArrayList<>();
        visits = new ArrayList<>();
        suspendedBodies = new boolean[BODIES];
        missedAtPorts = new int[PORTS];
        today = 0;
    }

    // ---- days, ships, rules

    public int pass(int days) throws IllegalArgumentException, IllegalStateException {
        if (days < 1 || days > LONGEST_PASS) {
            throw new IllegalArgumentException("days is out of range");
        }
        if (today + days > LAST_DAY) {
            throw new IllegalStateException("the days end ahead of that");
        }
        today += days;
        return today;
    }

    public int ship(int built, int size, int kind, int flag, int body)
            throws IndexOutOfBoundsException, IllegalArgumentException, IllegalStateException {
        if (!isIndex(flag, FLAGS) || !isIndex(body, BODIES)) {
            throw new IndexOutOfBoundsException("no such flag or body");
        }
        if (built < EARLIEST_BUILT || built > today || size < LEAST_SIZE || size > MOST_SIZE
                || kind < CARGO || kind > PASSENGER) {
            throw new IllegalArgumentException("built, size or kind is out of range");
        }
        if (ships.size() >= MOST_SHIPS) {
            throw new IllegalStateException("there are as many ships as there can be");
        }
        Ship told = new Ship(ships.size(), built, size, kind, flag, body);
        told.note(Note.BUILT, NONE, built, kind);
        told.note(Note.BELONGS, NONE, flag, body);
        ships.add(told);
        return told.number;
    }

    public int changes(int ship, int flag, int body) throws IndexOutOfBoundsException {
        Ship changed = shipNumbered(ship);
        if (!isIndex(flag, FLAGS) || !isIndex(body, BODIES)) {
            throw new IndexOutOfBoundsException("no such flag or body");
        }
        changed.flag = flag;
        changed.body = body;
        changed.changed++;
        changed.note(Note.BELONGS, NONE, flag, body);
        return changed.changed;
    }

    public boolean suspend(int body, boolean suspended) throws IndexOutOfBoundsException {
        if (!isIndex(body, suspendedBodies.length)) {
            throw new IndexOutOfBoundsException("no such body");
        }
        boolean was = suspendedBodies[body];
        suspendedBodies[body] = suspended;
        return was;
    }

    public int rule(int code, int size, int kinds, int from, int delay)
            throws IllegalArgumentException, IllegalStateException {
        if (!isIndex(code, CODES) || size < 0 || size > MOST_SIZE || kinds < 1 || kinds > ALL_KINDS
                || from < 0 || from > LAST_DAY || delay < 0 || delay > LONGEST_DELAY) {
            throw new IllegalArgumentException("code, size, kinds, from or delay is out of range");
        }
        if (rules.size() >= MOST_RULES) {
            throw new IllegalStateException("there are as many rules as there can be");
        }
        rules.add(new Rule(code, size, kinds, from, delay));
        return rules.size() - 1;
    }

    // ---- certificates

    public int issue(int ship, int family, int term)
            throws IndexOutOfBoundsException, IllegalArgumentException, IllegalStateException {
        Ship holder = shipNumbered(ship);
        if (!isIndex(family, holder.certificates.length) || term < 1 || term > LONGEST_TERM) {
            throw new IllegalArgumentException("family or term is out of range");
        }
        if (isSuspended(holder.body) || isIn(hangsOn(family), familiesNotGood(holder))) {
            throw new IllegalStateException("nobody can issue that now");
        }
        Certificate issued = new Certificate(holder.body, today, today + term);
        holder.certificates[family] = issued;
        return issued.lastDay;
    }

    public int endorse(int ship, int family)
            throws IndexOutOfBoundsException, IllegalArgumentException, IllegalStateException {
        Ship holder = shipNumbered(ship);
        if (!isIndex(family, holder.certificates.length)) {
            throw new IllegalArgumentException("family is out of range");
        }
        Certificate certificate = holder.certificates[family];
        if (certificate == null || isIn(family, familiesNotGood(holder))) {
            throw new IllegalStateException("there is none, or it has lapsed");
        }
        int due = certificate.anniversaryToEndorse(today);
        if (due == NONE) {
            throw new IllegalStateException("no anniversary has its time now");
        }
        certificate.endorsed |= 1 << due;
        return Integer.bitCount(certificate.endorsed);
    }

    // ---- calls, visits

    public int calls(int ship, int port) throws IndexOutOfBoundsException, IllegalStateException {
        Ship coming = shipNumbered(ship);
        if (!isIndex(port, PORTS)) {
            throw new IndexOutOfBoundsException("no such port");
        }
        if (coming.port != NONE || isBanned(coming)) {
            throw new IllegalStateException("it is at a port, or banned");
        }
        coming.port = port;
        return priorityOf(coming);
    }

    public boolean leaves(int ship) throws IndexOutOfBoundsException, IllegalStateException {
        Ship going = shipNumbered(ship);
        if (going.port == NONE || going.detainedBy != null) {
            throw new IllegalStateException("it is at no port, or detained");
        }
        boolean isMissed = going.visitHere == null && priorityOf(going) == 2;
        if (isMissed && isIndex(going.port, missedAtPorts.length)) {
            missedAtPorts[going.port]++;
        }
        going.port = NONE;
        going.visitHere = null;
        return isMissed;
    }

    public int visit(int ship) throws IndexOutOfBoundsException, IllegalStateException {
        Ship visited = shipNumbered(ship);
        if (visited.port == NONE || visited.visitHere != null || visits.size() >= MOST_VISITS) {
            throw new IllegalStateException("it cannot be visited now");
        }
        // The depth goes by the ship as it is met: this visit is not yet among those of its flag.
        Visit made = new Visit(visited, visits.size(), today, depthOfNext(visited));
        visits.add(made);
        visited.visitHere = made;
        visited.latestVisit = made;
        visited.note(Note.VISITED, made.number, today, NONE);
        return made.number;
    }

    public int finds(int visit, int code, int weight)
            throws IndexOutOfBoundsException, IllegalArgumentException, IllegalStateException {
        Visit made = visitNumbered(visit);
        if (!isIndex(code, CODES) || weight < 1 || weight > HEAVIEST) {
            throw new IllegalArgumentException("code or weight is out of range");
        }
        if (hasLeftSince(made) || !isGroundToday(made.ship, code) || made.findings.size() >= MOST_FINDINGS) {
            throw new IllegalStateException("that cannot be found now");
        }
        made.findings.add(new Finding(weight));
        if (made.depth == INITIAL && made.findings.size() >= FINDINGS_TO_DETAIL) {
            made.depth = DETAILED;
        }
        made.ship.note(Note.FOUND, made.number, code, weight);
        return made.findings.size() - 1;
    }

    public int mends(int visit, int finding, boolean off)
            throws IndexOutOfBoundsException, IllegalStateException {
        Visit made = visitNumbered(visit);
        if (!isIndex(finding, made.findings.size())) {
            throw new IndexOutOfBoundsException("no such finding");
        }
        Finding found = made.findings.get(finding);
        if (found.mended) {
            throw new IllegalStateException("it is mended");
        }
        if (off && (found.putOff || found.weight >= TOO_HEAVY_TO_PUT_OFF || hasLeftSince(made))) {
            throw new IllegalStateException("it cannot be put off");
        }
        if (off) {
            found.putOff = true;
        } else {
            found.mended = true;
        }
        return made.openFindings();
    }

    public int detain(int visit) throws IndexOutOfBoundsException, IllegalStateException {
        Visit made = visitNumbered(visit);
        if (hasLeftSince(made) || made.wasDetention() || !isDetainable(made)) {
            throw new IllegalStateException("it cannot be detained by that");
        }
        made.detainedOn = today;
        made.ship.detainedBy = made;
        made.ship.note(Note.DETAINED, made.number, today, NONE);
        lookForBan(made.ship);
        return detentionsThatCount(made.ship);
    }

    public int release(int ship) throws IndexOutOfBoundsException, IllegalStateException {
        Ship freed = shipNumbered(ship);
        Visit cause = freed.detainedBy;
        if (cause == null || cause.openFindings() > 0 || familiesNotGood(freed) != 0) {
            throw new IllegalStateException("it is not detained, or cannot be released");
        }
        int fee = FEE_A_DAY * (today - cause.detainedOn);
        freed.fees += fee;
        freed.detainedBy = null;
        if (freed.isBanDue) {
            ban(freed);
        }
        return fee;
    }

    public void appeal(int visit) throws IndexOutOfBoundsException, IllegalStateException {
        Visit made = visitNumbered(visit);
        if (!made.wasDetention() || made.appealed || today - made.detainedOn > DAYS_TO_APPEAL) {
            throw new IllegalStateException("it cannot be appealed");
        }
        made.appealed = true;
    }

    public int vote(int visit, boolean isFor) throws IndexOutOfBoundsException, IllegalStateException {
        Visit made = visitNumbered(visit);
        if (!made.appealed || made.decision() != 0) {
            throw new IllegalStateException("it was not appealed, or is decided");
        }
        if (isFor) {
            made.votesFor++;
        } else {
            made.votesAgainst++;
        }
        made.ship.note(isFor ? Note.VOTED_FOR : Note.VOTED_AGAINST, made.number, NONE, NONE);
        return made.decision();
    }

    // ---- asking

    public int ofShip(int ship, int what) throws IndexOutOfBoundsException, IllegalArgumentException {
        Ship asked = shipNumbered(ship);
        if (!isIndex(what, ASKED_OF_SHIP)) {
            throw new IllegalArgumentException("what is out of range");
        }
        switch (what) {
            case 0: return pointsOf(asked);
            case 1: return riskOf(asked);
            case 2: return priorityOf(asked);
            case 3: return asked.port;
            case 4: return asked.detainedBy != null ? 1 : 0;
            case 5: return isBanned(asked) ? 1 : 0;
            case 6: return asked.fees;
            default: return familiesNotGood(asked);
        }
    }

    public int pointsAnew(int ship) throws IndexOutOfBoundsException {
        return pointsByFile(shipNumbered(ship).file);
    }

    public boolean isGround(int ship, int code) throws IndexOutOfBoundsException, IllegalArgumentException {
        Ship asked = shipNumbered(ship);
        if (!isIndex(code, CODES)) {
            throw new IllegalArgumentException("code is out of range");
        }
        return isGroundToday(asked, code);
    }

    public int ofVisit(int visit, int what) throws IndexOutOfBoundsException, IllegalArgumentException {
        Visit asked = visitNumbered(visit);
        if (!isIndex(what, ASKED_OF_VISIT)) {
            throw new IllegalArgumentException("what is out of range");
        }
        switch (what) {
            case 0: return asked.ship.number;
            case 1: return asked.port;
            case 2: return asked.day;
            case 3: return asked.depth;
            case 4: return asked.findings.size();
            case 5: return asked.openFindings();
            default: return asked.counts() ? 1 : 0;
        }
    }

    public int list(int flag) throws IndexOutOfBoundsException {
        if (!isIndex(flag, FLAGS)) {
            throw new IndexOutOfBoundsException("no such flag");
        }
        return listOf(flag);
    }

    public int missed(int port) throws IndexOutOfBoundsException {
        if (!isIndex(port, missedAtPorts.length)) {
            throw new IndexOutOfBoundsException("no such port");
        }
        return missedAtPorts[port];
    }

    public int knew(int ship, int port, int day) throws IndexOutOfBoundsException, IllegalArgumentException {
        Ship asked = shipNumbered(ship);
        if (!isIndex(port, PORTS)) {
            throw new IndexOutOfBoundsException("no such port");
        }
        if (day < 0 || day > today) {
            throw new IllegalArgumentException("day is out of range");
        }
        int known = 0;
        for (int i = 0; i < visits.size(); i++) {
            Visit made = visits.get(i);
            if (made.ship == asked && made.isKnownAt(port, day)) {
                known += made.findings.size();
            }
        }
        return known;
    }

    // ---- what the calls share

    private static boolean isIndex(int number, int count) {
        return number >= 0 && number < count;
    }

    private static boolean isIn(int number, int set) {
        return number >= 0 && (set >> number & 1) == 1;
    }

    private Ship shipNumbered(int number) {
        if (!isIndex(number, ships.size())) {
            throw new IndexOutOfBoundsException("no such ship");
        }
        return ships.get(number);
    }

    private Visit visitNumbered(int number) {
        if (!isIndex(number, visits.size())) {
            throw new IndexOutOfBoundsException("no such visit");
        }
        return visits.get(number);
    }

    private boolean isOfLatest(int day) {
        return today - day < LATEST_DAYS;
    }

    private boolean isSuspended(int body) {
        return isIndex(body, suspendedBodies.length) && suspendedBodies[body];
    }

    private boolean isGroundToday(Ship ship, int code) {
        for (int i = 0; i < rules.size(); i++) {
            Rule rule = rules.get(i);
            if (rule.code == code && rule.isInForce(ship, today)) {
                return true;
            }
        }
        return false;
    }

    // ---- what hangs together

    private static int hangsOn(int family) {
        switch (family) {
            case SAFETY: return CLASS;
            case LINE: return CLASS;
            case RADIO: return SAFETY;
            default: return NONE;
        }
    }

    /** The set of families that have lapsed or lack. */
    private int familiesNotGood(Ship ship) {
        int set = 0;
        // One on which others hang has a lower number than they, so that it is judged ahead of them.
        for (int family = 0; family < ship.certificates.length; family++) {
            Certificate certificate = ship.certificates[family];
            if (certificate == null || certificate.hasLapsedByItself(today)
                    || isSuspended(certificate.body) || isIn(hangsOn(family), set)) {
                set |= 1 << family;
            }
        }
        return set;
    }

    // ---- risk

    private int pointsOf(Ship ship) {
        boolean manyFindings = false;
        for (int i = 0; i < visits.size(); i++) {
            Visit made = visits.get(i);
            if (made.ship == ship && isOfLatest(made.day) && made.findings.size() > MANY_FINDINGS) {
                manyFindings = true;
            }
        }
        return pointsOfMake(ship.built, ship.kind) + pointsOfBelonging(ship.flag, ship.body)
                + pointsOfVisits(manyFindings, detentionsThatCount(ship));
    }

    /** The same points, but from nothing that is kept beside the file. */
    private int pointsByFile(ArrayList<Note> file) {
        int make = 0;
        int belonging = 0;
        int detentions = 0;
        boolean manyFindings = false;
        for (int i = 0; i < file.size(); i++) {
            Note note = file.get(i);
            if (note.what == Note.BUILT) {
                make = pointsOfMake(note.first, note.second);
            } else if (note.what == Note.BELONGS) {
                belonging = pointsOfBelonging(note.first, note.second);
            } else if (note.what == Note.VISITED && isOfLatest(note.first)) {
                manyFindings = manyFindings || notesOf(file, Note.FOUND, note.visit) > MANY_FINDINGS;
                detentions += countsByFile(file, note.visit) ? 1 : 0;
            }
        }
        return make + belonging + pointsOfVisits(manyFindings, detentions);
    }

    private static boolean countsByFile(ArrayList<Note> file, int visit) {
        return notesOf(file, Note.DETAINED, visit) > 0 && notesOf(file, Note.VOTED_FOR, visit) < VOTES_TO_DECIDE;
    }

    private static int notesOf(ArrayList<Note> file, int what, int visit) {
        int count = 0;
        for (int i = 0; i < file.size(); i++) {
            Note note = file.get(i);
            if (note.what == what && note.visit == visit) {
                count++;
            }
        }
        return count;
    }

    private int pointsOfMake(int built, int kind) {
        int ofKind = kind == PASSENGER ? 2 : kind == TANKER ? 1 : 0;
        return (isOld(built) ? 1 : 0) + ofKind;
    }

    private int pointsOfBelonging(int flag, int body) {
        int list = listOf(flag);
        int ofFlag = list == BLACK ? 2 : list == GREY ? 1 : 0;
        return ofFlag + (isSuspended(body) ? 1 : 0);
    }

    private static int pointsOfVisits(boolean manyFindings, int detentions) {
        return (manyFindings ? 1 : 0) + Math.min(detentions, MOST_DETENTION_POINTS);
    }

    private boolean isOld(int built) {
        return today - built > OLD_BEHIND;
    }

    private int riskOf(Ship ship) {
        int points = pointsOf(ship);
        if (points >= HIGH_FROM) {
            return HIGH;
        }
        return points == 0 && listOf(ship.flag) == WHITE ? LOW : STANDARD;
    }

    private int priorityOf(Ship ship) {
        Visit latest = ship.latestVisit;
        if (latest == null) {
            return 2;
        }
        int since = today - latest.day;
        int risk = riskOf(ship);
        if (since > windowEnd(risk)) {
            return 2;
        }
        return since >= windowBegin(risk) ? 1 : 0;
    }

    private static int windowBegin(int risk) {
        switch (risk) {
            case HIGH: return 150;
            case LOW: return 720;
            default: return 300;
        }
    }

    private static int windowEnd(int risk) {
        switch (risk) {
            case HIGH: return 180;
            case LOW: return 1080;
            default: return 360;
        }
    }

    // ---- visits and detentions

    private int depthOfNext(Ship ship) {
        if (riskOf(ship) == HIGH || isOld(ship.built) && ship.kind != CARGO) {
            return EXPANDED;
        }
        return familiesNotGood(ship) != 0 || hasPutOffUnmended(ship) ? DETAILED : INITIAL;
    }

    /** As one call has one visit at most, what is put off here was so ahead of the call that is on now. */
    private boolean hasPutOffUnmended(Ship ship) {
        for (int i = 0; i < visits.size(); i++) {
            Visit made = visits.get(i);
            if (made.ship == ship && made.hasPutOffUnmended()) {
                return true;
            }
        }
        return false;
    }

    private static boolean hasLeftSince(Visit made) {
        return made.ship.visitHere != made;
    }

    private boolean isDetainable(Visit made) {
        return made.openWeight() >= DETAINABLE_FROM || familiesNotGood(made.ship) != 0;
    }

    private int detentionsThatCount(Ship ship) {
        int count = 0;
        for (int i = 0; i < visits.size(); i++) {
            if (isCounted(visits.get(i), ship)) {
                count++;
            }
        }
        return count;
    }

    private boolean isCounted(Visit made, Ship ship) {
        return made.ship == ship && isOfLatest(made.day) && made.counts();
    }

    /** Looked at as the ship is detained, so that an appeal that is won later leaves the ban as it is. */
    private void lookForBan(Ship ship) {
        int count = 0;
        for (int i = 0; i < visits.size(); i++) {
            Visit made = visits.get(i);
            if (isCounted(made, ship) && !made.ledToBan) {
                count++;
            }
        }
        if (count < DETENTIONS_TO_BAN) {
            return;
        }
        ship.isBanDue = true;
        for (int i = 0; i < visits.size(); i++) {
            Visit made = visits.get(i);
            if (isCounted(made, ship)) {
                made.ledToBan = true;
            }
        }
    }

    private void ban(Ship ship) {
        ship.isBanDue = false;
        ship.bans++;
        // No day comes behind the last one: a ban up to it is for good.
        ship.bannedTo = ship.bans == 1 ? today + FIRST_BAN : ship.bans == 2 ? today + SECOND_BAN : LAST_DAY;
    }

    private boolean isBanned(Ship ship) {
        return today <= ship.bannedTo;
    }

    // ---- lists

    private int listOf(int flag) {
        int all = 0;
        int detentions = 0;
        for (int i = 0; i < visits.size(); i++) {
            Visit made = visits.get(i);
            if (made.flag == flag && isOfLatest(made.day)) {
                all++;
                detentions += made.counts() ? 1 : 0;
            }
        }
        return listBy(all, detentions);
    }

    private static int listBy(int all, int detentions) {
        if (all < LEAST_LISTED) {
            return UNLISTED;
        }
        int above = 100 * detentions - 7 * all - 50;
        if (above > 0 && above * above > 1762 * all) {
            return BLACK;
        }
        int below = 7 * all - 50 - 100 * detentions;
        return below > 0 && below * below > 1762 * all ? WHITE : GREY;
    }

    // ---- what is kept

    private static final class Ship {
        final int number, built, size, kind;
        final Certificate[] certificates;
        final ArrayList<Note> file;
        int flag, body, changed;
        int port;
        Visit visitHere, latestVisit, detainedBy;
        boolean isBanDue;
        int bans, bannedTo;
        int fees;

        Ship(int number, int built, int size, int kind, int flag, int body) {
            this.number = number;
            this.built = built;
            this.size = size;
            this.kind = kind;
            this.flag = flag;
            this.body = body;
            certificates = new Certificate[FAMILIES];
            file = new ArrayList<>();
            port = NONE;
            bannedTo = NONE;
        }

        void note(int what, int visit, int first, int second) {
            if (file.size() < Note.MOST) {
                file.add(new Note(what, visit, first, second));
            }
        }
    }

    /** A line of a ship's file: what bears on its points, as it was told. */
    private static final class Note {
        static final int BUILT = 0, BELONGS = 1, VISITED = 2, FOUND = 3, DETAINED = 4;
        static final int VOTED_FOR = 5, VOTED_AGAINST = 6;
        /** A ship comes with two, and each of the 512 calls behind that adds one at most. */
        static final int MOST = 514;

        final int what, visit, first, second;

        Note(int what, int visit, int first, int second) {
            this.what = what;
            this.visit = visit;
            this.first = first;
            this.second = second;
        }
    }

    private static final class Rule {
        final int code, size, kinds, from, delay;

        Rule(int code, int size, int kinds, int from, int delay) {
            this.code = code;
            this.size = size;
            this.kinds = kinds;
            this.from = from;
            this.delay = delay;
        }

        boolean isInForce(Ship ship, int day) {
            int begin = ship.built < from ? from + delay : from;
            return ship.size >= size && isIn(ship.kind, kinds) && day >= begin;
        }
    }

    private static final class Certificate {
        final int body, issuedOn, lastDay;
        /** The set of anniversaries that were endorsed, the first of them as 0. */
        int endorsed;

        Certificate(int body, int issuedOn, int lastDay) {
            this.body = body;
            this.issuedOn = issuedOn;
            this.lastDay = lastDay;
        }

        int anniversaries() {
            return (lastDay - issuedOn - 1) / YEAR;
        }

        int anniversaryDay(int anniversary) {
            return issuedOn + YEAR * (anniversary + 1);
        }

        int anniversaryToEndorse(int day) {
            for (int i = 0; i < anniversaries(); i++) {
                if (!isIn(i, endorsed) && Math.abs(day - anniversaryDay(i)) <= ROUND_ANNIVERSARY) {
                    return i;
                }
            }
            return NONE;
        }

        /** By time or for want of an endorsement, whatever bodies and others do. */
        boolean hasLapsedByItself(int day) {
            for (int i = 0; i < anniversaries(); i++) {
                if (!isIn(i, endorsed) && day > anniversaryDay(i) + ROUND_ANNIVERSARY) {
                    return true;
                }
            }
            return day > lastDay;
        }
    }

    private static final class Finding {
        final int weight;
        boolean putOff, mended;

        Finding(int weight) {
            this.weight = weight;
        }

        boolean isOpen() {
            return !mended && !putOff;
        }
    }

    /** A visit, with the detention by it and the appeal of that, if there were. */
    private static final class Visit {
        final Ship ship;
        final int number, port, day, flag;
        final ArrayList<Finding> findings;
        int depth;
        int detainedOn;
        boolean ledToBan, appealed;
        int votesFor, votesAgainst;

        Visit(Ship ship, int number, int day, int depth) {
            this.ship = ship;
            this.number = number;
            this.port = ship.port;
            this.day = day;
            this.flag = ship.flag;
            this.depth = depth;
            findings = new ArrayList<>();
            detainedOn = NONE;
        }

        int openFindings() {
            int count = 0;
            for (int i = 0; i < findings.size(); i++) {
                count += findings.get(i).isOpen() ? 1 : 0;
            }
            return count;
        }

        int openWeight() {
            int sum = 0;
            for (int i = 0; i < findings.size(); i++) {
                Finding found = findings.get(i);
                sum += found.isOpen() ? found.weight : 0;
            }
            return sum;
        }

        boolean hasPutOffUnmended() {
            for (int i = 0; i < findings.size(); i++) {
                Finding found = findings.get(i);
                if (found.putOff && !found.mended) {
                    return true;
                }
            }
            return false;
        }

        boolean wasDetention() {
            return detainedOn != NONE;
        }

        int decision() {
            return votesFor >= VOTES_TO_DECIDE ? 1 : votesAgainst >= VOTES_TO_DECIDE ? 2 : 0;
        }

        boolean counts() {
            return detainedOn != NONE && votesFor < VOTES_TO_DECIDE;
        }

        boolean isKnownAt(int atPort, int byDay) {
            return byDay >= (port == atPort ? day : day + DAYS_TO_BE_KNOWN);
        }
    }
}
