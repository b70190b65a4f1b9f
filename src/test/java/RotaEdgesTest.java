/** Each sentence on invigilators, watches and counts that names a boundary case. */
public final class RotaEdgesTest {
    private static final int NONE = Desks.NONE;
    private static final int LEAST = Desks.LEAST;
    private static final int GREATEST = Desks.GREATEST;

    private static final int[] NO_SESSIONS = {LEAST, -1, 6, GREATEST};
    private static final int[] NO_PAPERS = {LEAST, -1, 9, GREATEST};
    private static final int[] NO_ROOMS = {LEAST, -1, 4, GREATEST};
    private static final int[] NO_INVIGILATORS = {LEAST, -1, 10, GREATEST};

    private static final Checks CHECKS = new Checks();

    public static void main(String[] args) {
        newInvigilators();
        mostNumbers();
        mostSessions();
        mostLeavesWatches();
        ownNumbers();
        ownLeavesWatches();
        ownPaperInARoom();
        watchNumbers();
        watchWhereNobodySits();
        watchForEachEight();
        watchInFourRooms();
        watchNoOtherRoom();
        watchUpToTheMost();
        watchAgainAtTheMost();
        watchThatCannotBe();
        watchLeavesEnoughForTheOthers();
        watchInPlaceOfThose();
        watcherNumbers();
        watcherByNumbers();
        countNumbers();
        countWithoutAPlan();
        CHECKS.finish("RotaEdgesTest");
    }

    /** One candidate, six papers in six sessions, and a seat; all sessions are seated. */
    private static ExamDesk sixSessions() {
        ExamDesk d = Desks.withSessions(6, 6);
        d.room(0, 1, 1, false);
        for (int p = 0; p < 6; p++) {
            d.enrol(0, p, true);
        }
        d.plan();
        for (int s = 0; s < 6; s++) {
            d.seat(s);
        }
        return d;
    }

    /** So many sit in room 1 in session 0, for papers 0 to 3. */
    private static ExamDesk roomWith(int sitters) {
        ExamDesk d = Desks.withSessions(4, 1);
        d.room(1, 6, 6, false);
        for (int c = 0; c < sitters; c++) {
            d.enrol(c, (c + c / 6 * 2) % 4, true);
        }
        d.plan();
        CHECKS.due("all sit", 0, () -> d.seat(0));
        CHECKS.due("so many", sitters, () -> d.count(3));
        return d;
    }

    /** Papers 0 .. 3 in session 0, each with one candidate in the room of its number. */
    private static ExamDesk fourRooms() {
        ExamDesk d = Desks.withSessions(4, 1);
        for (int n = 0; n < 4; n++) {
            d.room(n, 1, 1, false);
            d.enrol(n, n, true);
        }
        d.plan();
        d.seat(0);
        return d;
    }

    /** "the MOST sessions that it watches (0 at first), and OWN papers": none at first. */
    private static void newInvigilators() {
        ExamDesk d = new ExamDesk();
        for (int n = 0; n < 10; n++) {
            int i = n;
            CHECKS.due("at first most", 0, () -> d.most(i, 0));
            for (int m = 0; m < 9; m++) {
                int p = m;
                CHECKS.due("at first own", false, () -> d.own(i, p, false));
            }
        }
        for (int n = 0; n < 48; n++) {
            int s = n / 8;
            int room = n / 2 % 4;
            int k = n % 2;
            CHECKS.due("at first watcher", NONE, () -> d.watcher(s, room, k));
        }
        CHECKS.due("at first watches", 0, () -> d.count(4));
        CHECKS.due("nobody can watch at first", false, () -> fourRooms().watch(0));
    }

    /** "INVIGILATORS are 0 .. 9", and NoSuchElementException comes first. */
    private static void mostNumbers() {
        ExamDesk d = new ExamDesk();
        for (int wrong : NO_INVIGILATORS) {
            CHECKS.missing("most of " + wrong, () -> d.most(wrong, 1));
            for (int sessions : new int[] {LEAST, -1, 7, GREATEST}) {
                CHECKS.missing("most of nobody " + wrong, () -> d.most(wrong, sessions));
            }
        }
        CHECKS.due("the first", 0, () -> d.most(0, 5));
        CHECKS.due("the last", 0, () -> d.most(9, 4));
        CHECKS.due("one above the first", 0, () -> d.most(1, 0));
        CHECKS.due("one below the last", 0, () -> d.most(8, 0));
        CHECKS.due("the first again", 5, () -> d.most(0, 0));
        CHECKS.due("the last again", 4, () -> d.most(9, 0));
    }

    /** "IllegalArgumentException: it is not 0 .. 6." */
    private static void mostSessions() {
        ExamDesk d = new ExamDesk();
        int was = 0;
        for (int most : new int[] {0, 1, 2, 3, 4, 5, 6, 0, 6, 5}) {
            int old = was;
            CHECKS.due("most " + most, old, () -> d.most(9, most));
            was = most;
        }
        for (int wrong : new int[] {LEAST, -1, 7, GREATEST}) {
            CHECKS.refused("most " + wrong, () -> d.most(9, wrong));
            CHECKS.due("it is still 5", 5, () -> d.most(9, 5));
        }
    }

    /** "(Watches stay.)", though they are now more than the most. */
    private static void mostLeavesWatches() {
        ExamDesk d = sixSessions();
        d.most(3, 6);
        for (int n = 0; n < 6; n++) {
            int s = n;
            CHECKS.due("watch", true, () -> d.watch(s));
        }
        CHECKS.due("six before", 6, () -> d.most(3, 1));
        CHECKS.due("watches stay", 6, () -> d.count(4));
        CHECKS.due("not this one, if it is asked again", false, () -> d.watch(5));
        CHECKS.due("five stay", 5, () -> d.count(4));
        d.most(3, 5);
        CHECKS.due("five is not fewer than five", false, () -> d.watch(5));
        d.most(3, 6);
        CHECKS.due("five is fewer than six", true, () -> d.watch(5));
        CHECKS.due("six again", 6, () -> d.count(4));
    }

    private static void ownNumbers() {
        ExamDesk d = new ExamDesk();
        for (boolean is : new boolean[] {true, false}) {
            for (int wrong : NO_INVIGILATORS) {
                CHECKS.missing("own of " + wrong, () -> d.own(wrong, 0, is));
                CHECKS.missing("own 9 of " + wrong, () -> d.own(wrong, 9, is));
            }
            for (int wrong : NO_PAPERS) {
                CHECKS.missing("own " + wrong, () -> d.own(0, wrong, is));
            }
        }
        for (int i : new int[] {0, 9}) {
            for (int p : new int[] {0, 8}) {
                CHECKS.due("own", true, () -> d.own(i, p, true));
                CHECKS.due("so it is", false, () -> d.own(i, p, true));
                CHECKS.due("no more", true, () -> d.own(i, p, false));
                CHECKS.due("so it is not", false, () -> d.own(i, p, false));
            }
        }
    }

    /** "(Watches stay.)" */
    private static void ownLeavesWatches() {
        Desks.afterCall(CHECKS, "own paper in the room", false, d -> d.own(7, 0, true));
        Desks.afterCall(CHECKS, "most of one who watches", false, d -> d.most(7, 0));
        ExamDesk d = Desks.busyOffice();
        d.own(4, 0, true);
        CHECKS.due("it stays in room 0", "0/4 2/7", () -> Desks.watchersOf(d, 2));
        CHECKS.due("but not if it is asked again", false, () -> d.watch(2));
        CHECKS.due("nobody then", 0, () -> d.count(4));
    }

    /** "One may watch a room if nobody sits there for an own paper". */
    private static void ownPaperInARoom() {
        ExamDesk d = roomWith(4);
        d.most(5, 1);
        for (int n = 0; n < 9; n++) {
            int p = n;
            d.own(5, p, true);
            CHECKS.due("own paper " + p, p > 3, () -> d.watch(0));
            d.own(5, p, false);
        }
        CHECKS.due("one leaves", 103, () -> d.leave(3, 0));
        d.own(5, 3, true);
        CHECKS.due("nobody sits there for it now", true, () -> d.watch(0));
        for (int p = 0; p < 9; p++) {
            d.own(5, p, true);
        }
        CHECKS.due("all are its own", false, () -> d.watch(0));
        for (int n = 0; n < 4; n++) {
            int room = n;
            ExamDesk one = fourRooms();
            for (int c = 0; c < 4; c++) {
                if (c != room) {
                    one.leave(c, 0);
                }
            }
            CHECKS.due("nobody for room " + room, false, () -> one.watch(0));
            one.most(5, 1);
            for (int p = 0; p < 9; p++) {
                one.own(5, p, p != room);
            }
            CHECKS.due("all but the room's are its own", true, () -> one.watch(0));
            one.own(5, room, true);
            CHECKS.due("the room's too", false, () -> one.watch(0));
        }
    }

    private static void watchNumbers() {
        ExamDesk d = Desks.busyOffice();
        for (int wrong : NO_SESSIONS) {
            CHECKS.missing("watch " + wrong, () -> d.watch(wrong));
        }
        Desks.busy(CHECKS, "no session", d);
        CHECKS.due("the first", true, () -> d.watch(0));
        CHECKS.due("the last", true, () -> d.watch(5));
        Desks.busy(CHECKS, "sessions without sitters", d);
    }

    /** Nobody is needed where nobody sits: without a plan, without rooms, without seats. */
    private static void watchWhereNobodySits() {
        ExamDesk d = new ExamDesk();
        for (int n = 0; n < 6; n++) {
            int s = n;
            CHECKS.due("nothing there", true, () -> d.watch(s));
        }
        CHECKS.due("no watches", 0, () -> d.count(4));
        ExamDesk planned = Desks.office();
        planned.plan();
        CHECKS.due("nobody is seated yet", true, () -> planned.watch(2));
        CHECKS.due("no watches yet", 0, () -> planned.count(4));
    }

    /** "one for each eight that sit there, begun". */
    private static void watchForEachEight() {
        for (int sitters = 0; sitters <= 36; sitters++) {
            int needed = sitters / 8 + (sitters % 8 == 0 ? 0 : 1);
            ExamDesk d = roomWith(sitters);
            for (int i = 0; i < needed - 1; i++) {
                d.most(9 - i, 1);
            }
            CHECKS.due("one too few for " + sitters, needed == 0, () -> d.watch(0));
            CHECKS.due("nobody", 0, () -> d.count(4));
            d.most(0, 1);
            CHECKS.due("just enough for " + sitters, true, () -> d.watch(0));
            CHECKS.due("so many", needed, () -> d.count(4));
            CHECKS.due("the first", needed == 0 ? NONE : 0, () -> d.watcher(0, 1, 0));
            for (int i = 0; i < 10; i++) {
                d.most(i, 6);
            }
            CHECKS.due("more than enough for " + sitters, true, () -> d.watch(0));
            CHECKS.due("no more than it needs", needed, () -> d.count(4));
            int last = Math.max(0, needed - 1);
            CHECKS.due("the last one needed", needed - 1, () -> d.watcher(0, 1, last));
            CHECKS.due("none behind it", NONE, () -> d.watcher(0, 1, needed));
        }
    }

    /** Forty sit, 9, 9, 9 and 13 of them: two for each room. */
    private static void watchInFourRooms() {
        ExamDesk d = Desks.withSessions(2, 1);
        for (int r = 0; r < 4; r++) {
            d.room(r, 3, r == 3 ? 5 : 3, false);
        }
        for (int c = 0; c < 40; c++) {
            int place = c < 27 ? c % 9 : c - 27;
            d.enrol(c, place % 2, true);
        }
        d.plan();
        CHECKS.due("all sit", 0, () -> d.seat(0));
        for (int i = 0; i < 7; i++) {
            d.most(i, 6);
        }
        CHECKS.due("seven are too few", false, () -> d.watch(0));
        CHECKS.due("nobody", "", () -> Desks.watchersOf(d, 0));
        d.most(9, 1);
        CHECKS.due("eight are enough", true, () -> d.watch(0));
        CHECKS.due("by rooms", "0/0 0/1 1/2 1/3 2/4 2/5 3/6 3/9", () -> Desks.watchersOf(d, 0));
        d.leave(0, 0);
        CHECKS.due("eight in the first room", true, () -> d.watch(0));
        CHECKS.due("one for it", "0/0 1/1 1/2 2/3 2/4 3/5 3/6", () -> Desks.watchersOf(d, 0));
        d.own(0, 0, true);
        d.own(0, 1, true);
        CHECKS.due("the first may watch none", true, () -> d.watch(0));
        CHECKS.due("the others", "0/1 1/2 1/3 2/4 2/5 3/6 3/9", () -> Desks.watchersOf(d, 0));
    }

    /** "it watches no other room of the session". */
    private static void watchNoOtherRoom() {
        ExamDesk d = fourRooms();
        for (int n = 0; n < 4; n++) {
            int i = n;
            CHECKS.due("fewer than rooms", false, () -> d.watch(0));
            CHECKS.due("nobody", 0, () -> d.count(4));
            d.most(2 * i, 6);
        }
        CHECKS.due("one for each room", true, () -> d.watch(0));
        CHECKS.due("by rooms", "0/0 1/2 2/4 3/6", () -> Desks.watchersOf(d, 0));
    }

    /** "and fewer sessions than its most". */
    private static void watchUpToTheMost() {
        for (int most = 0; most <= 6; most++) {
            ExamDesk d = sixSessions();
            int sessions = most;
            d.most(8, sessions);
            for (int n = 5; n >= 0; n--) {
                int s = n;
                boolean may = 5 - s < sessions;
                CHECKS.due("most " + sessions + ", session " + s, may, () -> d.watch(s));
                CHECKS.due("it watches", may ? 8 : NONE, () -> d.watcher(s, 0, 0));
            }
            CHECKS.due("as many as its most", sessions, () -> d.count(4));
            d.most(9, 6);
            for (int n = 0; n < 6; n++) {
                int s = n;
                CHECKS.due("another helps", true, () -> d.watch(s));
            }
            CHECKS.due("all watched", 6, () -> d.count(4));
        }
    }

    /** "in place of those who watched there": their watches of this session do not count. */
    private static void watchAgainAtTheMost() {
        ExamDesk d = sixSessions();
        d.most(0, 1);
        for (int n = 0; n < 3; n++) {
            CHECKS.due("again and again", true, () -> d.watch(4));
            CHECKS.due("the same", 0, () -> d.watcher(4, 0, 0));
            CHECKS.due("one watch", 1, () -> d.count(4));
        }
        CHECKS.due("no other session", false, () -> d.watch(3));
        CHECKS.due("this one stays", 0, () -> d.watcher(4, 0, 0));
        d.leave(0, 4);
        CHECKS.due("nobody sits there now", true, () -> d.watch(4));
        CHECKS.due("so it has time", true, () -> d.watch(3));
    }

    /** "whether that can be (else nobody watches in the session)". */
    private static void watchThatCannotBe() {
        ExamDesk d = Desks.office();
        d.rule(Desks.BEFORE, 0, 1, true);
        d.plan();
        d.seat(2);
        d.seat(3);
        d.watch(3);
        d.watch(2);
        CHECKS.due("both watched", 3, () -> d.count(4));
        d.most(7, 0);
        CHECKS.due("it can't be", false, () -> d.watch(2));
        CHECKS.due("nobody in any room", "", () -> Desks.watchersOf(d, 2));
        CHECKS.due("the other session's stays", "0/4", () -> Desks.watchersOf(d, 3));
        CHECKS.due("seats stay", 4, () -> d.count(3));
        CHECKS.due("one watch", 1, () -> d.count(4));
    }

    /** "The rooms' places .. get the least invigilators that leave enough for the others." */
    private static void watchLeavesEnoughForTheOthers() {
        ExamDesk d = fourRooms();
        for (int i = 0; i < 4; i++) {
            d.most(i, 1);
        }
        // Invigilator i may watch the rooms 0 .. 3 - i alone, so the highest one must be in room 0.
        for (int i = 0; i < 4; i++) {
            for (int p = 4 - i; p < 4; p++) {
                d.own(i, p, true);
            }
        }
        CHECKS.due("just one way", true, () -> d.watch(0));
        CHECKS.due("it is found", "0/3 1/2 2/1 3/0", () -> Desks.watchersOf(d, 0));
        d.most(9, 1);
        CHECKS.due("one more", true, () -> d.watch(0));
        CHECKS.due("the last room gets it", "0/0 1/2 2/1 3/9", () -> Desks.watchersOf(d, 0));
        d.own(9, 3, true);
        CHECKS.due("not its own", true, () -> d.watch(0));
        CHECKS.due("the room before gets it", "0/1 1/2 2/9 3/0", () -> Desks.watchersOf(d, 0));
        d.own(0, 3, true);
        CHECKS.due("nobody for the last room", false, () -> d.watch(0));
        CHECKS.due("nobody anywhere", "", () -> Desks.watchersOf(d, 0));
    }

    private static void watchInPlaceOfThose() {
        ExamDesk d = fourRooms();
        for (int i = 5; i < 10; i++) {
            d.most(i, 1);
        }
        CHECKS.due("the higher ones", true, () -> d.watch(0));
        CHECKS.due("all but one", "0/5 1/6 2/7 3/8", () -> Desks.watchersOf(d, 0));
        d.most(0, 1);
        CHECKS.due("a lower one now", true, () -> d.watch(0));
        CHECKS.due("all move on", "0/0 1/5 2/6 3/7", () -> Desks.watchersOf(d, 0));
        d.leave(0, 0);
        CHECKS.due("one room is empty", true, () -> d.watch(0));
        CHECKS.due("it needs nobody", "1/0 2/5 3/6", () -> Desks.watchersOf(d, 0));
    }

    /** "NoSuchElementException: session or room, or k is below 0." */
    private static void watcherNumbers() {
        ExamDesk d = Desks.busyOffice();
        for (int wrong : NO_SESSIONS) {
            CHECKS.missing("watcher in session " + wrong, () -> d.watcher(wrong, 0, 0));
        }
        for (int wrong : NO_ROOMS) {
            CHECKS.missing("watcher in room " + wrong, () -> d.watcher(2, wrong, 0));
        }
        for (int wrong : new int[] {LEAST, -2, -1}) {
            CHECKS.missing("watcher " + wrong, () -> d.watcher(2, 0, wrong));
            CHECKS.missing("where none watches", () -> d.watcher(0, 3, wrong));
        }
        CHECKS.due("k is 0", 4, () -> d.watcher(2, 0, 0));
        for (int k : new int[] {1, 2, 9, 10, 31, 32, GREATEST}) {
            CHECKS.due("k is " + k, NONE, () -> d.watcher(2, 0, k));
        }
        CHECKS.due("the last room", NONE, () -> d.watcher(2, 3, 0));
        CHECKS.due("the first session", NONE, () -> d.watcher(0, 0, 0));
        CHECKS.due("the last session", NONE, () -> d.watcher(5, 3, 0));
    }

    /** "The k-th invigilator, by their numbers". */
    private static void watcherByNumbers() {
        ExamDesk d = roomWith(36);
        for (int i : new int[] {9, 7, 0, 3, 4}) {
            d.most(i, 1);
        }
        CHECKS.due("five", true, () -> d.watch(0));
        int[] due = {0, 3, 4, 7, 9, NONE, NONE};
        for (int n = 0; n < due.length; n++) {
            int k = n;
            CHECKS.due("the " + k + "-th", due[k], () -> d.watcher(0, 1, k));
        }
    }

    /** "IllegalArgumentException: none of these." */
    private static void countNumbers() {
        ExamDesk d = Desks.busyOffice();
        for (int wrong : new int[] {LEAST, -1, 5, GREATEST}) {
            CHECKS.refused("count " + wrong, () -> d.count(wrong));
        }
        int[] due = {2, 4, 1, 4, 2};
        for (int n = 0; n < 5; n++) {
            int what = n;
            CHECKS.due("count " + what, due[what], () -> d.count(what));
        }
    }

    private static void countWithoutAPlan() {
        ExamDesk d = Desks.busyOffice();
        d.fix(0, 0);
        int[] due = {2, 4, 0, 0, 0};
        for (int round = 0; round < 2; round++) {
            for (int n = 0; n < 5; n++) {
                int what = n;
                CHECKS.due("count without a plan " + what, due[what], () -> d.count(what));
            }
            CHECKS.due("no plan to be made", NONE, d::plan);
        }
    }
}
