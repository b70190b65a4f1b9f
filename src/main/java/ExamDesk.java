import java.util.Arrays;
import java.util.NoSuchElementException;

/**
 * An office for examinations: papers and candidates, the plan of sessions, seats and invigilators.
 *
 * <p>A set of papers, sessions or invigilators is an int with one bit for each member. All arrays
 * are made once, with the object, and used again by every call.
 */
public final class ExamDesk {
    public static final int NONE = -1;

    private static final int PAPERS = 9;
    private static final int CANDIDATES = 40;
    private static final int SESSIONS = 6;
    private static final int ROOMS = 4;
    private static final int INVIGILATORS = 10;

    private static final int MOST_MINUTES = 300;
    private static final int MOST_ROWS = 6;
    private static final int MOST_COLUMNS = 6;
    private static final int ROOM_PLACES = MOST_ROWS * MOST_COLUMNS;
    private static final int PLACES = ROOMS * ROOM_PLACES;
    private static final int SITTERS_PER_INVIGILATOR = 8;

    private static final int RULE_KINDS = 3;
    private static final int TOGETHER = 0;
    private static final int APART = 1;
    private static final int BEFORE = 2;

    private final Timetable timetable;
    private final Rooms rooms;
    private final Rota rota;

    public ExamDesk() {
        timetable = new Timetable();
        rooms = new Rooms();
        rota = new Rota();
    }

    public int paper(int p, int minutes) throws NoSuchElementException, IllegalArgumentException {
        mustExist(isPaper(p));
        mustBeAllowed(isUpTo(minutes, MOST_MINUTES));
        dropPlan();
        int old = timetable.paperMinutes[p];
        timetable.paperMinutes[p] = minutes;
        return old;
    }

    public int session(int s, int minutes) throws NoSuchElementException, IllegalArgumentException {
        mustExist(isSession(s));
        mustBeAllowed(isUpTo(minutes, MOST_MINUTES));
        dropPlan();
        int old = timetable.sessionMinutes[s];
        timetable.sessionMinutes[s] = minutes;
        return old;
    }

    public boolean enrol(int candidate, int paper, boolean is) throws NoSuchElementException {
        mustExist(isCandidate(candidate) && isPaper(paper));
        int old = timetable.enrolled[candidate];
        if (has(old, paper) == is) {
            return false;
        }
        dropPlan();
        timetable.enrolled[candidate] = with(old, paper, is);
        return true;
    }

    public boolean extra(int candidate, boolean is) throws NoSuchElementException {
        mustExist(isCandidate(candidate));
        boolean changes = timetable.hasExtra[candidate] != is;
        timetable.hasExtra[candidate] = is;
        return changes;
    }

    public boolean rule(int kind, int a, int b, boolean is)
            throws NoSuchElementException, IllegalArgumentException {
        mustExist(isBelow(kind, RULE_KINDS) && isPaper(a) && isPaper(b));
        mustBeAllowed(a != b);
        if (timetable.hasRule(kind, a, b) == is) {
            return false;
        }
        dropPlan();
        timetable.setRule(kind, a, b, is);
        return true;
    }

    public int fix(int paper, int session) throws NoSuchElementException {
        mustExist(isPaper(paper) && (session == NONE || isSession(session)));
        dropPlan();
        int old = timetable.fixedIn[paper];
        timetable.fixedIn[paper] = session;
        return old;
    }

    public int clash(int a, int b) throws NoSuchElementException {
        mustExist(isPaper(a) && isPaper(b));
        return timetable.enrolledForBoth(a, b);
    }

    public int plan() {
        dropPlan();
        return timetable.makePlan();
    }

    public int planned(int paper) throws NoSuchElementException {
        mustExist(isPaper(paper));
        return timetable.plannedIn[paper];
    }

    public int strain() {
        return timetable.sessionsInARow();
    }

    public void room(int r, int rows, int columns, boolean extra)
            throws NoSuchElementException, IllegalArgumentException {
        mustExist(isRoom(r));
        mustBeAllowed(isUpTo(rows, MOST_ROWS) && isUpTo(columns, MOST_COLUMNS));
        rooms.furnish(r, rows, columns, extra);
        rota.clear();
    }

    public boolean block(int room, int row, int column, boolean is)
            throws NoSuchElementException, IllegalStateException {
        mustExist(isRoom(room) && rooms.hasPlace(room, row, column));
        int place = placeAt(room, row, column);
        if (rooms.isTaken(place)) {
            throw new IllegalStateException("the seat is taken in some session");
        }
        boolean changes = rooms.blocked[place] != is;
        rooms.blocked[place] = is;
        return changes;
    }

    public int seat(int session) throws NoSuchElementException, IllegalStateException {
        mustExist(isSession(session));
        if (!timetable.hasPlan) {
            throw new IllegalStateException("there is no plan");
        }
        int without = 0;
        for (int c = 0; c < CANDIDATES; c++) {
            int paper = timetable.paperOf(c, session);
            if (paper != NONE && !rooms.giveSeat(session, c, paper, timetable.hasExtra[c])) {
                without++;
            }
        }
        return without;
    }

    public int leave(int candidate, int session) throws NoSuchElementException {
        mustExist(isCandidate(candidate) && isSession(session));
        int place = rooms.placeOf[session][candidate];
        rooms.vacate(session, place);
        return seatNumber(place);
    }

    public int where(int candidate, int session) throws NoSuchElementException {
        mustExist(isCandidate(candidate) && isSession(session));
        return seatNumber(rooms.placeOf[session][candidate]);
    }

    public int who(int session, int room, int row, int column) throws NoSuchElementException {
        mustExist(isSession(session) && isRoom(room) && rooms.hasPlace(room, row, column));
        return rooms.sitter[session][placeAt(room, row, column)];
    }

    public int most(int i, int sessions) throws NoSuchElementException, IllegalArgumentException {
        mustExist(isInvigilator(i));
        mustBeAllowed(isUpTo(sessions, SESSIONS));
        int old = rota.mostSessions[i];
        rota.mostSessions[i] = sessions;
        return old;
    }

    public boolean own(int i, int paper, boolean is) throws NoSuchElementException {
        mustExist(isInvigilator(i) && isPaper(paper));
        int old = rota.ownPapers[i];
        rota.ownPapers[i] = with(old, paper, is);
        return has(old, paper) != is;
    }

    public boolean watch(int session) throws NoSuchElementException {
        mustExist(isSession(session));
        return rota.staff(session, rooms);
    }

    public int watcher(int session, int room, int k) throws NoSuchElementException {
        mustExist(isSession(session) && isRoom(room) && k >= 0);
        return rota.watcherAt(session, room, k);
    }

    public int count(int what) throws IllegalArgumentException {
        switch (what) {
            case 0:
                return Integer.bitCount(timetable.heldPapers());
            case 1:
                return timetable.enrolments();
            case 2:
                return timetable.sessionsUsed;
            case 3:
                return rooms.seatsTaken();
            case 4:
                return rota.watches();
            default:
                throw new IllegalArgumentException("nothing that is counted");
        }
    }

    private void dropPlan() {
        // Seats are given by a plan alone and watches go where people sit: no plan, none of either.
        if (timetable.hasPlan) {
            timetable.forgetPlan();
            rooms.clear();
            rota.clear();
        }
    }

    private static void mustExist(boolean exists) {
        if (!exists) {
            throw new NoSuchElementException("there is no such thing");
        }
    }

    private static void mustBeAllowed(boolean allowed) {
        if (!allowed) {
            throw new IllegalArgumentException("this is not allowed");
        }
    }

    private static boolean isBelow(int number, int bound) {
        return number >= 0 && number < bound;
    }

    private static boolean isUpTo(int number, int most) {
        return number >= 0 && number <= most;
    }

    private static boolean isPaper(int p) {
        return isBelow(p, PAPERS);
    }

    private static boolean isCandidate(int c) {
        return isBelow(c, CANDIDATES);
    }

    private static boolean isSession(int s) {
        return isBelow(s, SESSIONS);
    }

    private static boolean isRoom(int r) {
        return isBelow(r, ROOMS);
    }

    private static boolean isInvigilator(int i) {
        return isBelow(i, INVIGILATORS);
    }

    private static boolean has(int set, int member) {
        return (set & (1 << member)) != 0;
    }

    private static int with(int set, int member, boolean is) {
        return is ? set | (1 << member) : set & ~(1 << member);
    }

    private static int placeAt(int room, int row, int column) {
        return room * ROOM_PLACES + row * MOST_COLUMNS + column;
    }

    private static int seatNumber(int place) {
        if (place == NONE) {
            return NONE;
        }
        int inRoom = place % ROOM_PLACES;
        return 100 * (place / ROOM_PLACES) + 10 * (inRoom / MOST_COLUMNS) + inRoom % MOST_COLUMNS;
    }

    /** Papers, sessions, enrolments and rules, and the plan that is made of them. */
    private static final class Timetable {
        final int[] paperMinutes = new int[PAPERS];
        final int[] sessionMinutes = new int[SESSIONS];
        final int[] enrolled = new int[CANDIDATES];
        final boolean[] hasExtra = new boolean[CANDIDATES];
        /** For each kind and paper b the set of the papers a; both ways round but for BEFORE. */
        final int[][] rules = new int[RULE_KINDS][PAPERS];
        final int[] fixedIn = new int[PAPERS];
        final int[] plannedIn = new int[PAPERS];
        /** A plan without any paper is a plan too, so plannedIn alone does not tell. */
        boolean hasPlan = false;
        int sessionsUsed = 0;
        final Planner planner = new Planner();

        Timetable() {
            Arrays.fill(fixedIn, NONE);
            Arrays.fill(plannedIn, NONE);
        }

        boolean hasRule(int kind, int a, int b) {
            return has(rules[kind][b], a);
        }

        void setRule(int kind, int a, int b, boolean is) {
            rules[kind][b] = with(rules[kind][b], a, is);
            if (kind != BEFORE) {
                rules[kind][a] = with(rules[kind][a], b, is);
            }
        }

        int enrolledForBoth(int a, int b) {
            int candidates = 0;
            for (int c = 0; c < CANDIDATES; c++) {
                if (has(enrolled[c], a) && has(enrolled[c], b)) {
                    candidates++;
                }
            }
            return candidates;
        }

        int enrolments() {
            int all = 0;
            for (int c = 0; c < CANDIDATES; c++) {
                all += Integer.bitCount(enrolled[c]);
            }
            return all;
        }

        int heldPapers() {
            int held = 0;
            for (int p = 0; p < PAPERS; p++) {
                held = with(held, p, paperMinutes[p] > 0);
            }
            return held;
        }

        /** The held papers that a session has time for and that are not fixed elsewhere. */
        int papersFitting(int session) {
            int fitting = heldPapers();
            for (int p = 0; p < PAPERS; p++) {
                boolean fixedElsewhere = fixedIn[p] != NONE && fixedIn[p] != session;
                if (fixedElsewhere || paperMinutes[p] > sessionMinutes[session]) {
                    fitting = with(fitting, p, false);
                }
            }
            return fitting;
        }

        /** The papers that clash with this one, or are to be apart from it. */
        int foesOf(int paper) {
            int foes = rules[APART][paper];
            for (int c = 0; c < CANDIDATES; c++) {
                if (has(enrolled[c], paper)) {
                    foes |= enrolled[c];
                }
            }
            return with(foes, paper, false);
        }

        int makePlan() {
            int cost = planner.leastCost(this);
            if (cost == Planner.UNREACHED) {
                return NONE;
            }
            hasPlan = true;
            sessionsUsed = cost / Planner.ONE_SESSION;
            readPlan(cost % Planner.ONE_SESSION);
            return sessionsUsed;
        }

        private void readPlan(int digits) {
            int held = heldPapers();
            int rest = digits;
            for (int p = PAPERS - 1; p >= 0; p--) {
                plannedIn[p] = has(held, p) ? rest % SESSIONS : NONE;
                rest /= SESSIONS;
            }
        }

        void forgetPlan() {
            hasPlan = false;
            sessionsUsed = 0;
            Arrays.fill(plannedIn, NONE);
        }

        /** What a candidate writes in a session: one paper at most, as no plan has clashes. */
        int paperOf(int candidate, int session) {
            for (int p = 0; p < PAPERS; p++) {
                if (plannedIn[p] == session && has(enrolled[candidate], p)) {
                    return p;
                }
            }
            return NONE;
        }

        int sessionsInARow() {
            int pairs = 0;
            for (int c = 0; c < CANDIDATES; c++) {
                int sessions = sessionsOf(c);
                pairs += Integer.bitCount(sessions & (sessions >> 1));
            }
            return pairs;
        }

        private int sessionsOf(int candidate) {
            int sessions = 0;
            for (int p = 0; p < PAPERS; p++) {
                if (plannedIn[p] != NONE && has(enrolled[candidate], p)) {
                    sessions |= 1 << plannedIn[p];
                }
            }
            return sessions;
        }
    }

    /**
     * Finds the best plan, one session after the other, over all sets of papers.
     *
     * <p>A plan's cost is ONE_SESSION for each session that is used, and below that a number that
     * has each paper's session as a digit, the lowest paper's as the first. So the least cost is
     * that of the best plan, tells it whole, and is a sum over the sessions.
     */
    private static final class Planner {
        static final int ONE_SESSION = 10077696; // SESSIONS to the power of PAPERS
        static final int UNREACHED = 1 << 30;

        private static final int SETS = 1 << PAPERS;

        /** What the digits of a set's papers are worth, if each of them is 1. */
        private final int[] digits = new int[SETS];
        /** The least cost of having just this set in the sessions that were looked at. */
        private final int[] best = new int[SETS];
        private final int[] foes = new int[SETS];
        private final int[] mates = new int[SETS];
        private final int[] before = new int[PAPERS];
        private int held = 0;

        Planner() {
            int digit = ONE_SESSION;
            for (int p = 0; p < PAPERS; p++) {
                digit /= SESSIONS;
                for (int lower = 0; lower < (1 << p); lower++) {
                    digits[lower | (1 << p)] = digits[lower] + digit;
                }
            }
        }

        int leastCost(Timetable timetable) {
            held = timetable.heldPapers();
            gatherRules(timetable);
            Arrays.fill(best, UNREACHED);
            best[0] = 0;
            for (int s = 0; s < SESSIONS; s++) {
                useSession(s, timetable.papersFitting(s));
            }
            return best[held];
        }

        private void gatherRules(Timetable timetable) {
            for (int p = 0; p < PAPERS; p++) {
                int foesOfThis = timetable.foesOf(p);
                int matesOfThis = timetable.rules[TOGETHER][p] & held;
                before[p] = timetable.rules[BEFORE][p] & held;
                for (int lower = 0; lower < (1 << p); lower++) {
                    foes[lower | (1 << p)] = foes[lower] | foesOfThis;
                    mates[lower | (1 << p)] = mates[lower] | matesOfThis;
                }
            }
        }

        private void useSession(int session, int fitting) {
            // Downwards, as sets only grow: each one's cost is still that of the sessions before.
            for (int placed = held; placed >= 0; placed--) {
                if (best[placed] + ONE_SESSION < best[held]) {
                    addMeetings(placed, session, fitting & ~placed & papersReady(placed));
                }
            }
        }

        /** The papers all of whose forerunners are placed. */
        private int papersReady(int placed) {
            int ready = 0;
            for (int p = 0; p < PAPERS; p++) {
                ready = with(ready, p, (before[p] & ~placed) == 0);
            }
            return ready;
        }

        /** Tries each part of the choice but the empty one, from the whole choice downwards. */
        private void addMeetings(int placed, int session, int choice) {
            int set = choice;
            for (int left = (1 << Integer.bitCount(choice)) - 1; left > 0; left--) {
                int cost = best[placed] + ONE_SESSION + session * digits[set];
                if (mayMeet(set) && cost < best[placed | set]) {
                    best[placed | set] = cost;
                }
                // The next lower number whose bits are all in the choice.
                set = (set - 1) & choice;
            }
        }

        private boolean mayMeet(int set) {
            return (foes[set] & set) == 0 && (mates[set] & ~set) == 0;
        }
    }

    /** Rooms with their places, and who sits where in each session. */
    private static final class Rooms {
        final int[] rows = new int[ROOMS];
        final int[] columns = new int[ROOMS];
        final boolean[] forExtra = new boolean[ROOMS];
        final boolean[] blocked = new boolean[PLACES];
        final int[][] sitter = new int[SESSIONS][PLACES];
        final int[][] paperAt = new int[SESSIONS][PLACES];
        final int[][] placeOf = new int[SESSIONS][CANDIDATES];

        Rooms() {
            for (int s = 0; s < SESSIONS; s++) {
                Arrays.fill(sitter[s], NONE);
                Arrays.fill(paperAt[s], NONE);
                Arrays.fill(placeOf[s], NONE);
            }
        }

        void clear() {
            for (int s = 0; s < SESSIONS; s++) {
                for (int c = 0; c < CANDIDATES; c++) {
                    vacate(s, placeOf[s][c]);
                }
            }
        }

        void furnish(int room, int newRows, int newColumns, boolean extraTime) {
            for (int place = room * ROOM_PLACES; place < (room + 1) * ROOM_PLACES; place++) {
                blocked[place] = false;
                for (int s = 0; s < SESSIONS; s++) {
                    vacate(s, place);
                }
            }
            rows[room] = newRows;
            columns[room] = newColumns;
            forExtra[room] = extraTime;
        }

        boolean hasPlace(int room, int row, int column) {
            return isBelow(row, rows[room]) && isBelow(column, columns[room]);
        }

        boolean isTaken(int place) {
            for (int s = 0; s < SESSIONS; s++) {
                if (sitter[s][place] != NONE) {
                    return true;
                }
            }
            return false;
        }

        /** Whether the candidate has a seat behind that. */
        boolean giveSeat(int session, int candidate, int paper, boolean extraTime) {
            if (placeOf[session][candidate] != NONE) {
                return true;
            }
            for (int r = 0; r < ROOMS; r++) {
                int place = forExtra[r] == extraTime ? firstPlace(session, r, paper) : NONE;
                if (place != NONE) {
                    sitter[session][place] = candidate;
                    paperAt[session][place] = paper;
                    placeOf[session][candidate] = place;
                    return true;
                }
            }
            return false;
        }

        private int firstPlace(int session, int room, int paper) {
            for (int row = 0; row < rows[room]; row++) {
                for (int column = 0; column < columns[room]; column++) {
                    int place = placeAt(room, row, column);
                    if (!blocked[place] && sitter[session][place] == NONE
                            && !hasNeighbour(session, room, row, column, paper)) {
                        return place;
                    }
                }
            }
            return NONE;
        }

        private boolean hasNeighbour(int session, int room, int row, int column, int paper) {
            return isWritten(session, room, row, column - 1, paper)
                    || isWritten(session, room, row, column + 1, paper)
                    || isWritten(session, room, row - 1, column, paper)
                    || isWritten(session, room, row + 1, column, paper);
        }

        private boolean isWritten(int session, int room, int row, int column, int paper) {
            return hasPlace(room, row, column)
                    && paperAt[session][placeAt(room, row, column)] == paper;
        }

        void vacate(int session, int place) {
            if (place != NONE && sitter[session][place] != NONE) {
                placeOf[session][sitter[session][place]] = NONE;
                sitter[session][place] = NONE;
                paperAt[session][place] = NONE;
            }
        }

        int sittersIn(int session, int room) {
            int sitters = 0;
            for (int place = room * ROOM_PLACES; place < (room + 1) * ROOM_PLACES; place++) {
                if (sitter[session][place] != NONE) {
                    sitters++;
                }
            }
            return sitters;
        }

        int papersIn(int session, int room) {
            int papers = 0;
            for (int place = room * ROOM_PLACES; place < (room + 1) * ROOM_PLACES; place++) {
                if (paperAt[session][place] != NONE) {
                    papers |= 1 << paperAt[session][place];
                }
            }
            return papers;
        }

        int seatsTaken() {
            int taken = 0;
            for (int s = 0; s < SESSIONS; s++) {
                for (int r = 0; r < ROOMS; r++) {
                    taken += sittersIn(s, r);
                }
            }
            return taken;
        }
    }

    /** Invigilators and the rooms that they watch in each session. */
    private static final class Rota {
        final int[] mostSessions = new int[INVIGILATORS];
        final int[] ownPapers = new int[INVIGILATORS];
        /** For each session and room the set of those who watch there. */
        private final int[][] watching = new int[SESSIONS][ROOMS];
        private final int[] missing = new int[ROOMS];
        private final int[] suited = new int[ROOMS];

        void clear() {
            for (int s = 0; s < SESSIONS; s++) {
                Arrays.fill(watching[s], 0);
            }
        }

        boolean staff(int session, Rooms rooms) {
            // First, so that what they watched in this session does not count against their most.
            Arrays.fill(watching[session], 0);
            int free = thoseWithTime();
            for (int r = 0; r < ROOMS; r++) {
                missing[r] = needed(rooms.sittersIn(session, r));
                suited[r] = thoseWithout(rooms.papersIn(session, r));
            }
            if (!areEnough(free)) {
                return false;
            }
            for (int r = 0; r < ROOMS; r++) {
                free = staffRoom(session, r, free);
            }
            return true;
        }

        private static int needed(int sitters) {
            return (sitters + SITTERS_PER_INVIGILATOR - 1) / SITTERS_PER_INVIGILATOR;
        }

        private int thoseWithTime() {
            int free = 0;
            for (int i = 0; i < INVIGILATORS; i++) {
                free = with(free, i, watchesOf(i) < mostSessions[i]);
            }
            return free;
        }

        private int watchesOf(int invigilator) {
            int watches = 0;
            for (int s = 0; s < SESSIONS; s++) {
                for (int r = 0; r < ROOMS; r++) {
                    watches += has(watching[s][r], invigilator) ? 1 : 0;
                }
            }
            return watches;
        }

        private int thoseWithout(int papers) {
            int those = 0;
            for (int i = 0; i < INVIGILATORS; i++) {
                those = with(those, i, (ownPapers[i] & papers) == 0);
            }
            return those;
        }

        /** Who is free behind that. Who can't be spared for one place can't be for the next. */
        private int staffRoom(int session, int room, int freeAtFirst) {
            int free = freeAtFirst;
            for (int i = 0; i < INVIGILATORS && missing[room] > 0; i++) {
                if (has(free & suited[room], i)) {
                    missing[room]--;
                    if (areEnough(with(free, i, false))) {
                        free = with(free, i, false);
                        watching[session][room] = with(watching[session][room], i, true);
                    } else {
                        missing[room]++;
                    }
                }
            }
            return free;
        }

        /** By Hall's theorem: enough, if any rooms together find as many as they miss. */
        private boolean areEnough(int free) {
            for (int group = 1; group < (1 << ROOMS); group++) {
                int those = 0;
                int places = 0;
                for (int r = 0; r < ROOMS; r++) {
                    if (has(group, r)) {
                        those |= suited[r] & free;
                        places += missing[r];
                    }
                }
                if (Integer.bitCount(those) < places) {
                    return false;
                }
            }
            return true;
        }

        int watcherAt(int session, int room, int k) {
            int before = 0;
            for (int i = 0; i < INVIGILATORS; i++) {
                if (has(watching[session][room], i)) {
                    if (before == k) {
                        return i;
                    }
                    before++;
                }
            }
            return NONE;
        }

        int watches() {
            int all = 0;
            for (int s = 0; s < SESSIONS; s++) {
                for (int r = 0; r < ROOMS; r++) {
                    all += Integer.bitCount(watching[s][r]);
                }
            }
            return all;
        }
    }
}
