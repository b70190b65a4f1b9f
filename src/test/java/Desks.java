import java.util.function.Consumer;

/** Offices that several tests use, and longer answers as texts. */
final class Desks {
    static final int NONE = ExamDesk.NONE;
    static final int LEAST = Integer.MIN_VALUE;
    static final int GREATEST = Integer.MAX_VALUE;
    static final int TOGETHER = 0;
    static final int APART = 1;
    static final int BEFORE = 2;

    private Desks() {
    }

    /** The papers and sessions from 0 on, each of an hour. */
    static ExamDesk withSessions(int papers, int sessions) {
        ExamDesk d = new ExamDesk();
        for (int p = 0; p < papers; p++) {
            d.paper(p, 60);
        }
        for (int s = 0; s < sessions; s++) {
            d.session(s, 60);
        }
        return d;
    }

    /** Two papers of an hour, two sessions, a room of 2 by 3 and one for extra time of 1 by 2. */
    static ExamDesk office() {
        ExamDesk d = new ExamDesk();
        d.paper(0, 60);
        d.paper(1, 60);
        d.session(2, 60);
        d.session(3, 60);
        d.room(0, 2, 3, false);
        d.room(2, 1, 2, true);
        d.most(4, 6);
        d.most(7, 6);
        d.enrol(10, 0, true);
        d.enrol(11, 0, true);
        d.enrol(12, 1, true);
        d.enrol(13, 0, true);
        d.extra(13, true);
        return d;
    }

    /** An office with a plan of one session, 2, where all sit and all is watched. */
    static ExamDesk busyOffice() {
        ExamDesk d = office();
        d.plan();
        d.seat(2);
        d.watch(2);
        return d;
    }

    static void busy(Checks checks, String what, ExamDesk d) {
        checks.due(what + ": the plan stays", 1, () -> d.count(2));
        checks.due(what + ": the plan's session stays", 2, () -> d.planned(0));
        checks.due(what + ": seats stay", 4, () -> d.count(3));
        checks.due(what + ": a seat stays", 1, () -> d.where(12, 2));
        checks.due(what + ": watches stay", 2, () -> d.count(4));
        checks.due(what + ": a watch stays", 7, () -> d.watcher(2, 2, 0));
    }

    static void allGone(Checks checks, String what, ExamDesk d) {
        checks.due(what + ": no session is used", 0, () -> d.count(2));
        checks.due(what + ": no plan", NONE, () -> d.planned(0));
        checks.illState(what + ": no plan to seat by", () -> d.seat(2));
        checks.due(what + ": no seats", 0, () -> d.count(3));
        checks.due(what + ": no seat of one", NONE, () -> d.where(12, 2));
        checks.due(what + ": nobody on a seat", NONE, () -> d.who(2, 0, 0, 1));
        checks.due(what + ": no watches", 0, () -> d.count(4));
        checks.due(what + ": no watch", NONE, () -> d.watcher(2, 2, 0));
    }

    /** What a call does to a busy office: its plan, seats and watches go, or they stay. */
    static void afterCall(Checks checks, String what, boolean goes, Consumer<ExamDesk> call) {
        ExamDesk d = busyOffice();
        call.accept(d);
        if (goes) {
            allGone(checks, what, d);
        } else {
            busy(checks, what, d);
        }
    }

    /** The first and the last of all sit, and watch, in the first and the last session and room. */
    static ExamDesk ends() {
        ExamDesk d = new ExamDesk();
        for (int end = 0; end < 2; end++) {
            d.paper(8 * end, 300);
            d.session(5 * end, 300);
            d.fix(8 * end, 5 * end);
            d.room(3 * end, 1, 1, false);
            d.most(9 * end, 2);
        }
        for (int end = 0; end < 2; end++) {
            d.enrol(39 * end, 0, true);
            d.enrol(39 * end, 8, true);
        }
        d.plan();
        for (int s = 0; s < 6; s += 5) {
            d.seat(s);
            d.watch(s);
        }
        return d;
    }

    /** "where: watches" of both ends in both sessions. */
    static String endsOf(ExamDesk d) {
        return d.where(0, 0) + " " + d.where(39, 0) + ": " + watchersOf(d, 0) + ", "
                + d.where(0, 5) + " " + d.where(39, 5) + ": " + watchersOf(d, 5);
    }

    static Object makeRoom(ExamDesk d, int r, int rows, int columns, boolean extra) {
        d.room(r, rows, columns, extra);
        return "done";
    }

    /** Plans: the sessions used, and each paper's session or "-". */
    static String planOf(ExamDesk d) {
        StringBuilder all = new StringBuilder();
        all.append(d.plan()).append(':');
        for (int p = 0; p < 9; p++) {
            all.append(d.planned(p) == NONE ? "-" : String.valueOf(d.planned(p)));
        }
        return all.toString();
    }

    /** "room/invigilator" for each watch of a session. */
    static String watchersOf(ExamDesk d, int session) {
        StringBuilder all = new StringBuilder();
        for (int r = 0; r < 4; r++) {
            for (int k = 0; k < 10; k++) {
                if (d.watcher(session, r, k) != NONE) {
                    all.append(r).append('/').append(d.watcher(session, r, k)).append(' ');
                }
            }
        }
        return all.toString().trim();
    }
}
