/** For each promise of the document: ordinary inputs, the edges that it names, and wrong inputs. */
public final class PromiseTest {
    private static final int NONE = ExamDesk.NONE;
    private static final int TOGETHER = 0;
    private static final int APART = 1;
    private static final int BEFORE = 2;

    private static final Checks CHECKS = new Checks();

    public static void main(String[] args) {
        newObject();
        paper();
        session();
        enrol();
        extra();
        rule();
        fix();
        clash();
        planOfFewest();
        planInOrder();
        planByMinutes();
        planByRules();
        planOfMany();
        planned();
        strain();
        room();
        block();
        seat();
        seatByKind();
        seatBesideOne();
        leave();
        where();
        who();
        most();
        own();
        watch();
        watchLeavesEnough();
        watchByEights();
        watcher();
        count();
        manyCalls();
        CHECKS.finish("PromiseTest");
    }

    private static void newObject() {
        ExamDesk d = new ExamDesk();
        for (int what = 0; what < 5; what++) {
            int w = what;
            CHECKS.due("new: count " + w, 0, () -> d.count(w));
        }
        for (int s = 0; s < 6; s++) {
            int t = s;
            CHECKS.illState("new: seat " + t, () -> d.seat(t));
            CHECKS.due("new: where", NONE, () -> d.where(39, t));
            CHECKS.due("new: watcher", NONE, () -> d.watcher(t, 3, 0));
            CHECKS.due("new: watch", true, () -> d.watch(t));
            CHECKS.due("new: session", 0, () -> d.session(t, 0));
        }
        CHECKS.due("new: strain", 0, d::strain);
        CHECKS.missing("new: who", () -> d.who(0, 0, 0, 0));
        for (int p = 0; p < 9; p++) {
            int q = p;
            CHECKS.due("new: planned", NONE, () -> d.planned(q));
            CHECKS.due("new: clash", 0, () -> d.clash(q, q));
            CHECKS.due("new: fix", NONE, () -> d.fix(q, NONE));
            CHECKS.due("new: paper", 0, () -> d.paper(q, 0));
            CHECKS.due("new: own", false, () -> d.own(9, q, false));
            CHECKS.due("new: enrol", false, () -> d.enrol(39, q, false));
        }
        for (int kind = 0; kind < 3; kind++) {
            int k = kind;
            CHECKS.due("new: rule", false, () -> d.rule(k, 0, 8, false));
        }
        for (int i = 0; i < 10; i++) {
            int j = i;
            CHECKS.due("new: most", 0, () -> d.most(j, 0));
        }
        CHECKS.due("new: extra", false, () -> d.extra(0, false));
    }

    private static void paper() {
        ExamDesk d = Desks.busyOffice();
        CHECKS.missing("paper -1", () -> d.paper(-1, 60));
        CHECKS.missing("paper 9", () -> d.paper(9, 60));
        CHECKS.missing("paper 9, and wrong minutes", () -> d.paper(9, 301));
        CHECKS.missing("a far paper", () -> d.paper(Integer.MIN_VALUE, 60));
        CHECKS.refused("paper of -1", () -> d.paper(0, -1));
        CHECKS.refused("paper of 301", () -> d.paper(0, 301));
        Desks.busy(CHECKS, "wrong papers", d);
        CHECKS.due("paper 8", 0, () -> d.paper(8, 300));
        Desks.allGone(CHECKS, "paper 8", d);
        CHECKS.due("paper 8 again", 300, () -> d.paper(8, 0));
        CHECKS.due("paper 8 not held", 2, () -> d.count(0));
        CHECKS.due("paper 8 once more", 0, () -> d.paper(8, 0));
        ExamDesk same = Desks.busyOffice();
        CHECKS.due("paper with the same minutes", 60, () -> same.paper(0, 60));
        Desks.allGone(CHECKS, "paper with the same minutes", same);
    }

    private static void session() {
        ExamDesk d = Desks.busyOffice();
        CHECKS.missing("session -1", () -> d.session(-1, 60));
        CHECKS.missing("session 6", () -> d.session(6, 60));
        CHECKS.missing("session 6, and wrong minutes", () -> d.session(6, -1));
        CHECKS.refused("session of -1", () -> d.session(2, -1));
        CHECKS.refused("session of 301", () -> d.session(2, 301));
        Desks.busy(CHECKS, "wrong sessions", d);
        CHECKS.due("session 5", 0, () -> d.session(5, 300));
        Desks.allGone(CHECKS, "session 5", d);
        CHECKS.due("session 5 again", 300, () -> d.session(5, 1));
        CHECKS.due("session 5 once more", 1, () -> d.session(5, 0));
        ExamDesk same = Desks.busyOffice();
        CHECKS.due("session with the same minutes", 60, () -> same.session(2, 60));
        Desks.allGone(CHECKS, "session with the same minutes", same);
    }

    private static void enrol() {
        ExamDesk d = Desks.busyOffice();
        CHECKS.missing("enrol -1", () -> d.enrol(-1, 0, true));
        CHECKS.missing("enrol 40", () -> d.enrol(40, 0, true));
        CHECKS.missing("enrol for -1", () -> d.enrol(0, -1, true));
        CHECKS.missing("enrol for 9", () -> d.enrol(0, 9, true));
        CHECKS.due("enrol as it was", false, () -> d.enrol(10, 0, true));
        CHECKS.due("enrol as it was not", false, () -> d.enrol(10, 1, false));
        Desks.busy(CHECKS, "no enrolment", d);
        CHECKS.due("enrol", true, () -> d.enrol(39, 8, true));
        Desks.allGone(CHECKS, "enrol for a paper that is not held", d);
        CHECKS.due("enrolments", 5, () -> d.count(1));
        CHECKS.due("enrol twice", false, () -> d.enrol(39, 8, true));
        CHECKS.due("enrol no more", true, () -> d.enrol(39, 8, false));
        CHECKS.due("enrolments again", 4, () -> d.count(1));
        ExamDesk less = Desks.busyOffice();
        CHECKS.due("one less", true, () -> less.enrol(10, 0, false));
        Desks.allGone(CHECKS, "one less", less);
    }

    private static void extra() {
        ExamDesk d = Desks.busyOffice();
        CHECKS.missing("extra -1", () -> d.extra(-1, true));
        CHECKS.missing("extra 40", () -> d.extra(40, true));
        CHECKS.due("extra as it was", false, () -> d.extra(13, true));
        CHECKS.due("extra", true, () -> d.extra(10, true));
        CHECKS.due("extra twice", false, () -> d.extra(10, true));
        CHECKS.due("extra no more", true, () -> d.extra(13, false));
        Desks.busy(CHECKS, "extra time", d);
        CHECKS.due("extra, seated as before", 0, () -> d.where(10, 2));
        CHECKS.due("extra, nobody to seat", 0, () -> d.seat(2));
        CHECKS.due("no extra, seated as before", 200, () -> d.leave(13, 2));
        CHECKS.due("no extra, seated anew", 0, () -> d.seat(2));
        CHECKS.due("no extra, among the others", 11, () -> d.where(13, 2));
        CHECKS.due("extra, leaves", 0, () -> d.leave(10, 2));
        CHECKS.due("extra, seated anew", 0, () -> d.seat(2));
        CHECKS.due("extra, in its room", 200, () -> d.where(10, 2));
    }

    private static void rule() {
        ExamDesk d = Desks.busyOffice();
        CHECKS.missing("rule -1", () -> d.rule(-1, 0, 1, true));
        CHECKS.missing("rule 3", () -> d.rule(3, 0, 1, true));
        CHECKS.missing("rule 3 of one", () -> d.rule(3, 1, 1, true));
        CHECKS.missing("rule of -1", () -> d.rule(TOGETHER, -1, 1, true));
        CHECKS.missing("rule of 9", () -> d.rule(APART, 9, 1, true));
        CHECKS.missing("rule with -1", () -> d.rule(BEFORE, 1, -1, true));
        CHECKS.missing("rule with 9", () -> d.rule(BEFORE, 1, 9, true));
        CHECKS.missing("rule of 9 alone", () -> d.rule(BEFORE, 9, 9, true));
        for (int kind = 0; kind < 3; kind++) {
            int k = kind;
            CHECKS.refused("rule of one", () -> d.rule(k, 1, 1, true));
            CHECKS.refused("no rule of one", () -> d.rule(k, 1, 1, false));
            CHECKS.due("no rule", false, () -> d.rule(k, 0, 1, false));
        }
        Desks.busy(CHECKS, "no rules", d);
        CHECKS.due("together", true, () -> d.rule(TOGETHER, 0, 1, true));
        Desks.allGone(CHECKS, "together", d);
        CHECKS.due("together, turned", false, () -> d.rule(TOGETHER, 1, 0, true));
        CHECKS.due("not together, turned", true, () -> d.rule(TOGETHER, 1, 0, false));
        CHECKS.due("not together", false, () -> d.rule(TOGETHER, 0, 1, false));
        CHECKS.due("apart", true, () -> d.rule(APART, 8, 1, true));
        CHECKS.due("apart, turned", false, () -> d.rule(APART, 1, 8, true));
        CHECKS.due("not apart, turned", true, () -> d.rule(APART, 1, 8, false));
        CHECKS.due("not apart", false, () -> d.rule(APART, 8, 1, false));
        CHECKS.due("before", true, () -> d.rule(BEFORE, 0, 1, true));
        CHECKS.due("before twice", false, () -> d.rule(BEFORE, 0, 1, true));
        CHECKS.due("before, turned, is another", true, () -> d.rule(BEFORE, 1, 0, true));
        CHECKS.due("each before the other", NONE, d::plan);
        CHECKS.due("not before", true, () -> d.rule(BEFORE, 0, 1, false));
        CHECKS.due("one before the other", 2, d::plan);
        CHECKS.due("the turned one stays", 3, () -> d.planned(0));
        for (int kind = 0; kind < 3; kind++) {
            int k = kind;
            ExamDesk more = Desks.busyOffice();
            CHECKS.due("a rule", true, () -> more.rule(k, 7, 8, true));
            Desks.allGone(CHECKS, "a rule of papers that are not held", more);
            more.plan();
            CHECKS.due("no rule", true, () -> more.rule(k, 7, 8, false));
            Desks.allGone(CHECKS, "a rule that goes", more);
        }
    }

    private static void fix() {
        ExamDesk d = Desks.busyOffice();
        CHECKS.missing("fix -1", () -> d.fix(-1, 0));
        CHECKS.missing("fix 9", () -> d.fix(9, 0));
        CHECKS.missing("fix in -2", () -> d.fix(0, -2));
        CHECKS.missing("fix in 6", () -> d.fix(0, 6));
        Desks.busy(CHECKS, "wrong fixes", d);
        CHECKS.due("fix", NONE, () -> d.fix(0, 3));
        Desks.allGone(CHECKS, "fix", d);
        CHECKS.due("fixed plan", 1, d::plan);
        CHECKS.due("fixed paper", 3, () -> d.planned(0));
        CHECKS.due("the other joins it", 3, () -> d.planned(1));
        CHECKS.due("fix as it was", 3, () -> d.fix(0, 3));
        Desks.allGone(CHECKS, "fix as it was", d);
        CHECKS.due("fix in a closed session", 3, () -> d.fix(0, 5));
        CHECKS.due("no plan", NONE, d::plan);
        CHECKS.due("fix in session 0", 5, () -> d.fix(0, 0));
        CHECKS.due("fixed no more", 0, () -> d.fix(0, NONE));
        CHECKS.due("a plan", 1, d::plan);
        CHECKS.due("still not fixed", NONE, () -> d.fix(0, NONE));
        Desks.allGone(CHECKS, "no fix as it was", d);
        CHECKS.due("fix what is not held", NONE, () -> d.fix(8, 5));
        CHECKS.due("does not matter", 1, d::plan);
    }

    private static void clash() {
        ExamDesk d = new ExamDesk();
        d.enrol(0, 0, true);
        d.enrol(0, 8, true);
        d.enrol(39, 0, true);
        d.enrol(39, 8, true);
        d.enrol(20, 8, true);
        CHECKS.due("clash", 2, () -> d.clash(0, 8));
        CHECKS.due("clash, turned", 2, () -> d.clash(8, 0));
        CHECKS.due("clash with itself", 3, () -> d.clash(8, 8));
        CHECKS.due("no clash", 0, () -> d.clash(0, 1));
        d.enrol(39, 8, false);
        CHECKS.due("one less", 1, () -> d.clash(0, 8));
        CHECKS.missing("clash -1", () -> d.clash(-1, 0));
        CHECKS.missing("clash 9", () -> d.clash(9, 0));
        CHECKS.missing("clash with -1", () -> d.clash(0, -1));
        CHECKS.missing("clash with 9", () -> d.clash(0, 9));
    }

    private static void planOfFewest() {
        ExamDesk d = new ExamDesk();
        CHECKS.due("plan of nothing", "0:---------", () -> Desks.planOf(d));
        CHECKS.due("it is a plan", 0, () -> d.seat(0));
        d.paper(4, 60);
        CHECKS.due("no session", "-1:---------", () -> Desks.planOf(d));
        CHECKS.illState("it is none", () -> d.seat(0));
        // Paper 0 alone would be in session 0, yet only session 5 has time for both.
        ExamDesk fewer = new ExamDesk();
        fewer.paper(0, 60);
        fewer.paper(1, 90);
        fewer.session(0, 60);
        fewer.session(5, 90);
        CHECKS.due("one session is fewer", "1:55-------", () -> Desks.planOf(fewer));
        fewer.rule(APART, 0, 1, true);
        CHECKS.due("two, if they are apart", "2:05-------", () -> Desks.planOf(fewer));
        ExamDesk busy = Desks.busyOffice();
        CHECKS.due("plan once more", 1, busy::plan);
        CHECKS.due("seats go", 0, () -> busy.count(3));
        CHECKS.due("a seat goes", NONE, () -> busy.where(10, 2));
        CHECKS.due("nobody sits", NONE, () -> busy.who(2, 0, 0, 0));
        CHECKS.due("watches go", 0, () -> busy.count(4));
        CHECKS.due("a watch goes", NONE, () -> busy.watcher(2, 0, 0));
        CHECKS.due("the plan is there", 2, () -> busy.planned(1));
    }

    private static void planInOrder() {
        ExamDesk d = Desks.withSessions(4, 6);
        d.enrol(5, 1, true);
        d.enrol(5, 2, true);
        CHECKS.due("low sessions for low papers", "2:0010-----", () -> Desks.planOf(d));
        d.rule(BEFORE, 2, 0, true);
        CHECKS.due("paper 0 first that can be", "2:1100-----", () -> Desks.planOf(d));
        d.fix(3, 5);
        CHECKS.due("with one that is fixed", "2:5505-----", () -> Desks.planOf(d));
        d.rule(BEFORE, 3, 1, true);
        CHECKS.due("none behind the last", "-1:---------", () -> Desks.planOf(d));
        d.fix(3, 3);
        CHECKS.due("two meet there, two behind", "2:4433-----", () -> Desks.planOf(d));
    }

    private static void planByMinutes() {
        ExamDesk d = new ExamDesk();
        d.paper(0, 300);
        d.paper(8, 1);
        d.session(1, 299);
        d.session(4, 300);
        CHECKS.due("just enough", "1:4-------4", () -> Desks.planOf(d));
        d.rule(BEFORE, 8, 0, true);
        CHECKS.due("each where it fits", "2:4-------1", () -> Desks.planOf(d));
        d.session(4, 299);
        CHECKS.due("a minute short", NONE, d::plan);
        d.paper(0, 299);
        CHECKS.due("a minute less", "2:4-------1", () -> Desks.planOf(d));
        d.session(1, 0);
        CHECKS.due("closed", NONE, d::plan);
    }

    private static void planByRules() {
        ExamDesk d = Desks.withSessions(3, 6);
        d.rule(TOGETHER, 0, 1, true);
        d.rule(TOGETHER, 1, 2, true);
        d.rule(APART, 0, 2, true);
        CHECKS.due("together and apart", NONE, d::plan);
        d.paper(1, 0);
        CHECKS.due("what is not held binds nobody", "2:0-1------", () -> Desks.planOf(d));
        d.paper(1, 60);
        d.rule(APART, 2, 0, false);
        CHECKS.due("three together", "1:000------", () -> Desks.planOf(d));
        d.enrol(0, 0, true);
        d.enrol(0, 2, true);
        CHECKS.due("together, but they clash", NONE, d::plan);
        d.enrol(0, 2, false);
        d.rule(BEFORE, 0, 2, true);
        CHECKS.due("together, but one before the other", NONE, d::plan);
        d.rule(TOGETHER, 2, 1, false);
        CHECKS.due("two together", "2:001------", () -> Desks.planOf(d));
        d.rule(BEFORE, 8, 0, true);
        CHECKS.due("before one that is not held", "2:001------", () -> Desks.planOf(d));
        d.paper(8, 60);
        CHECKS.due("before one that is held", "3:112-----0", () -> Desks.planOf(d));
        d.rule(BEFORE, 2, 8, true);
        CHECKS.due("in a ring", NONE, d::plan);
    }

    private static void planOfMany() {
        ExamDesk d = Desks.withSessions(9, 6);
        CHECKS.due("all at once", "1:000000000", () -> Desks.planOf(d));
        for (int p = 0; p < 5; p++) {
            d.rule(BEFORE, p + 1, p, true);
        }
        CHECKS.due("six in a row", "6:543210000", () -> Desks.planOf(d));
        d.rule(BEFORE, 6, 5, true);
        CHECKS.due("seven in a row", NONE, d::plan);
        ExamDesk clique = Desks.withSessions(9, 6);
        for (int p = 0; p < 6; p++) {
            clique.enrol(0, p, true);
        }
        CHECKS.due("six that clash", "6:012345000", () -> Desks.planOf(clique));
        clique.enrol(0, 6, true);
        CHECKS.due("seven that clash", NONE, clique::plan);
        // Lowest first puts 0 and 3 together and needs three: two sessions need 0, 2, 4 against 1, 3, 5.
        ExamDesk crown = Desks.withSessions(6, 3);
        crown.rule(APART, 0, 1, true);
        crown.rule(APART, 2, 3, true);
        crown.rule(APART, 4, 5, true);
        crown.rule(APART, 0, 3, true);
        crown.rule(APART, 2, 5, true);
        crown.rule(APART, 4, 1, true);
        CHECKS.due("two are enough", "2:010101---", () -> Desks.planOf(crown));
    }

    private static void planned() {
        ExamDesk d = Desks.office();
        CHECKS.missing("planned -1", () -> d.planned(-1));
        CHECKS.missing("planned 9", () -> d.planned(9));
        CHECKS.due("no plan yet", NONE, () -> d.planned(0));
        d.plan();
        CHECKS.due("planned", 2, () -> d.planned(0));
        CHECKS.due("not held", NONE, () -> d.planned(8));
        d.fix(0, 5);
        d.plan();
        CHECKS.due("no plan", NONE, () -> d.planned(1));
    }

    private static void strain() {
        ExamDesk d = Desks.withSessions(4, 6);
        for (int p = 0; p < 4; p++) {
            d.enrol(7, p, true);
        }
        d.enrol(8, 1, true);
        d.enrol(8, 2, true);
        d.enrol(9, 0, true);
        d.enrol(9, 2, true);
        d.enrol(9, 8, true);
        CHECKS.due("strain without a plan", 0, d::strain);
        d.plan();
        CHECKS.due("strain", 4, d::strain);
        d.fix(2, 4);
        CHECKS.due("strain of a plan that went", 0, d::strain);
        CHECKS.due("plan with a gap", "4:0142-----", () -> Desks.planOf(d));
        CHECKS.due("strain with a gap", 2, d::strain);
        d.fix(2, 5);
        d.session(1, 0);
        CHECKS.due("plan round a closed one", "4:0253-----", () -> Desks.planOf(d));
        CHECKS.due("a closed session parts", 1, d::strain);
        d.fix(2, 1);
        d.plan();
        CHECKS.due("no plan", 0, d::strain);
    }

    private static void room() {
        ExamDesk d = Desks.busyOffice();
        CHECKS.missing("room -1", () -> Desks.makeRoom(d, -1, 1, 1, false));
        CHECKS.missing("room 4", () -> Desks.makeRoom(d, 4, 1, 1, false));
        CHECKS.missing("room 4, and wrong rows", () -> Desks.makeRoom(d, 4, 7, 1, false));
        CHECKS.refused("rows -1", () -> Desks.makeRoom(d, 0, -1, 1, false));
        CHECKS.refused("rows 7", () -> Desks.makeRoom(d, 0, 7, 1, false));
        CHECKS.refused("columns -1", () -> Desks.makeRoom(d, 0, 1, -1, false));
        CHECKS.refused("columns 7", () -> Desks.makeRoom(d, 0, 1, 7, false));
        Desks.busy(CHECKS, "wrong rooms", d);
        d.block(0, 1, 2, true);
        CHECKS.due("room 0 as it was", "done", () -> Desks.makeRoom(d, 0, 2, 3, false));
        CHECKS.due("nobody sits there", NONE, () -> d.where(10, 2));
        CHECKS.due("nobody has its seat", NONE, () -> d.who(2, 0, 0, 0));
        CHECKS.due("one sits elsewhere", 200, () -> d.where(13, 2));
        CHECKS.due("seats", 1, () -> d.count(3));
        CHECKS.due("all watches go", 0, () -> d.count(4));
        CHECKS.due("the plan stays", 2, () -> d.planned(0));
        CHECKS.due("no seat is blocked", true, () -> d.block(0, 1, 2, true));
        CHECKS.due("seats as before", 0, () -> d.seat(2));
        CHECKS.due("the first again", 0, () -> d.where(10, 2));
        CHECKS.due("another room", "done", () -> Desks.makeRoom(d, 3, 6, 6, true));
        CHECKS.due("seats stay", 4, () -> d.count(3));
        CHECKS.due("its last seat", NONE, () -> d.who(0, 3, 5, 5));
        CHECKS.due("no room", "done", () -> Desks.makeRoom(d, 3, 0, 6, true));
        CHECKS.missing("no seat", () -> d.who(0, 3, 0, 0));
        CHECKS.due("watched anew", true, () -> d.watch(2));
        CHECKS.due("room 1", "done", () -> Desks.makeRoom(d, 1, 0, 0, false));
        CHECKS.due("all watches go again", 0, () -> d.count(4));
    }

    private static void block() {
        ExamDesk d = Desks.office();
        CHECKS.missing("block in -1", () -> d.block(-1, 0, 0, true));
        CHECKS.missing("block in 4", () -> d.block(4, 0, 0, true));
        CHECKS.missing("block in no rows", () -> d.block(1, 0, 0, true));
        CHECKS.missing("block row -1", () -> d.block(0, -1, 0, true));
        CHECKS.missing("block row 2", () -> d.block(0, 2, 0, true));
        CHECKS.missing("block column -1", () -> d.block(0, 0, -1, true));
        CHECKS.missing("block column 3", () -> d.block(0, 0, 3, true));
        CHECKS.due("not blocked", false, () -> d.block(0, 0, 0, false));
        CHECKS.due("block", true, () -> d.block(0, 0, 0, true));
        CHECKS.due("blocked", false, () -> d.block(0, 0, 0, true));
        d.plan();
        d.seat(2);
        d.watch(2);
        CHECKS.due("not on a blocked seat", 1, () -> d.where(10, 2));
        CHECKS.illState("a taken seat", () -> d.block(0, 0, 1, true));
        CHECKS.illState("a taken seat that is not blocked", () -> d.block(0, 0, 1, false));
        CHECKS.due("no more blocked", true, () -> d.block(0, 0, 0, false));
        CHECKS.due("who sits stays", 1, () -> d.where(10, 2));
        CHECKS.due("watches stay", 2, () -> d.count(4));
        d.leave(10, 2);
        CHECKS.due("left", true, () -> d.block(0, 0, 1, true));
        d.seat(2);
        CHECKS.due("seated anew, not in front of the same", 12, () -> d.where(10, 2));
        ExamDesk two = Desks.office();
        two.rule(BEFORE, 0, 1, true);
        two.plan();
        two.seat(3);
        CHECKS.due("seat 0 in session 3 alone", 0, () -> two.where(12, 3));
        CHECKS.illState("taken in some session", () -> two.block(0, 0, 0, true));
    }

    private static void seat() {
        ExamDesk d = Desks.office();
        CHECKS.illState("seat without a plan", () -> d.seat(0));
        CHECKS.missing("seat -1 without a plan", () -> d.seat(-1));
        d.plan();
        CHECKS.missing("seat -1", () -> d.seat(-1));
        CHECKS.missing("seat 6", () -> d.seat(6));
        CHECKS.due("seat where nothing is", 0, () -> d.seat(3));
        CHECKS.due("nobody", 0, () -> d.count(3));
        CHECKS.due("seat", 0, () -> d.seat(2));
        CHECKS.due("the first", 0, () -> d.where(10, 2));
        CHECKS.due("not beside the same", 2, () -> d.where(11, 2));
        CHECKS.due("beside another", 1, () -> d.where(12, 2));
        CHECKS.due("with extra time", 200, () -> d.where(13, 2));
        CHECKS.due("seat twice", 0, () -> d.seat(2));
        CHECKS.due("as before", 4, () -> d.count(3));
        // One paper in rooms 0 and 1: like the black squares of a board, and one is left.
        ExamDesk full = new ExamDesk();
        full.paper(5, 10);
        full.session(0, 10);
        full.room(0, 2, 3, false);
        full.room(1, 1, 1, false);
        for (int c = 0; c < 6; c++) {
            full.enrol(39 - c, 5, true);
        }
        full.plan();
        CHECKS.due("two have none", 2, () -> full.seat(0));
        CHECKS.due("lowest first", 0, () -> full.where(34, 0));
        CHECKS.due("second", 2, () -> full.where(35, 0));
        CHECKS.due("not behind the same", 11, () -> full.where(36, 0));
        CHECKS.due("next room", 100, () -> full.where(37, 0));
        CHECKS.due("no seat", NONE, () -> full.where(38, 0));
        CHECKS.due("still two", 2, () -> full.seat(0));
        full.leave(35, 0);
        full.block(0, 0, 2, true);
        CHECKS.due("three now", 3, () -> full.seat(0));
        full.block(0, 0, 2, false);
        CHECKS.due("two again", 2, () -> full.seat(0));
        CHECKS.due("the lowest without", 2, () -> full.where(35, 0));
    }

    private static void seatByKind() {
        ExamDesk d = new ExamDesk();
        d.paper(0, 10);
        d.paper(1, 10);
        d.session(0, 10);
        d.session(1, 10);
        d.room(3, 6, 6, true);
        d.enrol(0, 0, true);
        d.enrol(0, 1, true);
        d.enrol(1, 1, true);
        d.enrol(2, 7, true);
        d.plan();
        CHECKS.due("no room for others", 1, () -> d.seat(0));
        d.extra(0, true);
        CHECKS.due("one for extra time", 0, () -> d.seat(0));
        CHECKS.due("there", 300, () -> d.where(0, 0));
        CHECKS.due("another session", 1, () -> d.seat(1));
        CHECKS.due("the same seat in another session", 300, () -> d.where(0, 1));
        d.room(2, 6, 6, false);
        CHECKS.due("a room for others", 0, () -> d.seat(1));
        CHECKS.due("in front", 200, () -> d.where(1, 1));
        CHECKS.due("no paper here", NONE, () -> d.where(1, 0));
        CHECKS.due("no paper that is held", NONE, () -> d.where(2, 0));
        // Neighbours are of the same room: the last seat of a row and the first of the next are none.
        ExamDesk rows = new ExamDesk();
        rows.paper(0, 10);
        rows.session(0, 10);
        rows.room(0, 6, 1, false);
        rows.room(1, 1, 6, false);
        for (int c = 0; c < 7; c++) {
            rows.enrol(c, 0, true);
        }
        rows.plan();
        CHECKS.due("a column and a row", 1, () -> rows.seat(0));
        CHECKS.due("second in the column", 20, () -> rows.where(1, 0));
        CHECKS.due("last of the column", 40, () -> rows.where(2, 0));
        CHECKS.due("first of the row", 100, () -> rows.where(3, 0));
        CHECKS.due("last of the row", 104, () -> rows.where(5, 0));
        rows.block(1, 0, 5, true);
        rows.room(0, 6, 6, false);
        CHECKS.due("a whole room", 0, () -> rows.seat(0));
        CHECKS.due("first row", 4, () -> rows.where(2, 0));
        CHECKS.due("second row", 11, () -> rows.where(6, 0));
    }

    /** One sits somewhere round the middle seat of nine; who may take that then? */
    private static void seatBesideOne() {
        for (int seat = 0; seat < 9; seat++) {
            int row = seat / 3;
            int column = seat % 3;
            int away = Math.abs(row - 1) + Math.abs(column - 1);
            if (away == 0) {
                continue;
            }
            ExamDesk d = roomOfNine();
            d.block(1, row, column, false);
            d.plan();
            CHECKS.due("one seat for three", 2, () -> d.seat(0));
            CHECKS.due("the first has it", 100 + 10 * row + column, () -> d.where(0, 0));
            d.block(1, 1, 1, false);
            CHECKS.due("two seats for three", 1, () -> d.seat(0));
            CHECKS.due("the middle one beside " + seat, away == 1 ? 2 : 1, () -> d.who(0, 1, 1, 1));
            d.leave(0, 0);
            d.leave(1, 0);
            d.leave(2, 0);
            d.block(1, row, column, true);
            CHECKS.due("the middle seat alone", 2, () -> d.seat(0));
            CHECKS.due("nobody is beside it now", 0, () -> d.who(0, 1, 1, 1));
        }
    }

    /** All its seats are blocked; 0 and 1 write the same, 2 another paper. */
    private static ExamDesk roomOfNine() {
        ExamDesk d = new ExamDesk();
        d.session(0, 10);
        d.paper(0, 10);
        d.paper(1, 10);
        d.enrol(0, 0, true);
        d.enrol(1, 0, true);
        d.enrol(2, 1, true);
        d.room(1, 3, 3, false);
        for (int seat = 0; seat < 9; seat++) {
            d.block(1, seat / 3, seat % 3, true);
        }
        return d;
    }

    private static void leave() {
        ExamDesk d = Desks.busyOffice();
        CHECKS.missing("leave -1", () -> d.leave(-1, 2));
        CHECKS.missing("leave 40", () -> d.leave(40, 2));
        CHECKS.missing("leave in -1", () -> d.leave(10, -1));
        CHECKS.missing("leave in 6", () -> d.leave(10, 6));
        CHECKS.due("leave elsewhere", NONE, () -> d.leave(10, 3));
        CHECKS.due("leave without a seat", NONE, () -> d.leave(0, 2));
        Desks.busy(CHECKS, "nobody leaves", d);
        CHECKS.due("leave", 2, () -> d.leave(11, 2));
        CHECKS.due("it is gone", NONE, () -> d.where(11, 2));
        CHECKS.due("its seat is free", NONE, () -> d.who(2, 0, 0, 2));
        CHECKS.due("leave twice", NONE, () -> d.leave(11, 2));
        CHECKS.due("leave the room for extra time", 200, () -> d.leave(13, 2));
        CHECKS.due("seats", 2, () -> d.count(3));
        CHECKS.due("watches stay", 2, () -> d.count(4));
        CHECKS.due("a watch stays", 7, () -> d.watcher(2, 2, 0));
        d.leave(12, 2);
        CHECKS.due("back", 0, () -> d.seat(2));
        CHECKS.due("as before", 2, () -> d.where(11, 2));
        CHECKS.due("watches stay with seat", 2, () -> d.count(4));
    }

    private static void where() {
        ExamDesk d = Desks.busyOffice();
        CHECKS.missing("where -1", () -> d.where(-1, 2));
        CHECKS.missing("where 40", () -> d.where(40, 2));
        CHECKS.missing("where in -1", () -> d.where(10, -1));
        CHECKS.missing("where in 6", () -> d.where(10, 6));
        CHECKS.due("where", 2, () -> d.where(11, 2));
        CHECKS.due("in another session", NONE, () -> d.where(11, 3));
        CHECKS.due("another", NONE, () -> d.where(39, 2));
        ExamDesk far = new ExamDesk();
        far.paper(8, 1);
        far.session(5, 1);
        far.room(3, 6, 6, false);
        far.enrol(39, 8, true);
        for (int seat = 0; seat < 35; seat++) {
            far.block(3, seat / 6, seat % 6, true);
        }
        far.plan();
        CHECKS.due("the last seat", 0, () -> far.seat(5));
        CHECKS.due("its number", 355, () -> far.where(39, 5));
        CHECKS.due("who has it", 39, () -> far.who(5, 3, 5, 5));
    }

    private static void who() {
        ExamDesk d = Desks.busyOffice();
        CHECKS.due("who", 12, () -> d.who(2, 0, 0, 1));
        CHECKS.due("nobody", NONE, () -> d.who(2, 0, 1, 2));
        CHECKS.due("nobody in another session", NONE, () -> d.who(3, 0, 0, 1));
        CHECKS.missing("who in -1", () -> d.who(-1, 0, 0, 0));
        CHECKS.missing("who in 6", () -> d.who(6, 0, 0, 0));
        CHECKS.missing("who in room -1", () -> d.who(2, -1, 0, 0));
        CHECKS.missing("who in room 4", () -> d.who(2, 4, 0, 0));
        CHECKS.missing("who in no rows", () -> d.who(2, 1, 0, 0));
        CHECKS.missing("who in row -1", () -> d.who(2, 0, -1, 0));
        CHECKS.missing("who in row 2", () -> d.who(2, 0, 2, 0));
        CHECKS.missing("who in column -1", () -> d.who(2, 0, 0, -1));
        CHECKS.missing("who in column 3", () -> d.who(2, 0, 0, 3));
        CHECKS.missing("who in a far row", () -> d.who(2, 0, Integer.MAX_VALUE, 0));
    }

    private static void most() {
        ExamDesk d = Desks.busyOffice();
        CHECKS.missing("most -1", () -> d.most(-1, 1));
        CHECKS.missing("most 10", () -> d.most(10, 1));
        CHECKS.missing("most 10, and wrong sessions", () -> d.most(10, 7));
        CHECKS.refused("most of -1", () -> d.most(4, -1));
        CHECKS.refused("most of 7", () -> d.most(4, 7));
        CHECKS.due("most", 6, () -> d.most(4, 0));
        CHECKS.due("most again", 0, () -> d.most(4, 2));
        CHECKS.due("most of none", 0, () -> d.most(9, 1));
        CHECKS.due("most once more", 2, () -> d.most(4, 0));
        Desks.busy(CHECKS, "most", d);
        CHECKS.due("who watched may not now", true, () -> d.watch(2));
        CHECKS.due("the others do", 7, () -> d.watcher(2, 0, 0));
        CHECKS.due("the last too", 9, () -> d.watcher(2, 2, 0));
    }

    private static void own() {
        ExamDesk d = Desks.busyOffice();
        CHECKS.missing("own -1", () -> d.own(-1, 0, true));
        CHECKS.missing("own 10", () -> d.own(10, 0, true));
        CHECKS.missing("own paper -1", () -> d.own(4, -1, true));
        CHECKS.missing("own paper 9", () -> d.own(4, 9, true));
        CHECKS.due("not own", false, () -> d.own(4, 1, false));
        CHECKS.due("own", true, () -> d.own(4, 1, true));
        CHECKS.due("own twice", false, () -> d.own(4, 1, true));
        CHECKS.due("another's own", true, () -> d.own(9, 8, true));
        Desks.busy(CHECKS, "own", d);
        CHECKS.due("the other room has none of it", true, () -> d.watch(2));
        CHECKS.due("so they change", 7, () -> d.watcher(2, 0, 0));
        CHECKS.due("places", 4, () -> d.watcher(2, 2, 0));
        CHECKS.due("own no more", true, () -> d.own(4, 1, false));
        CHECKS.due("watched again", true, () -> d.watch(2));
        CHECKS.due("as at first", 4, () -> d.watcher(2, 0, 0));
    }

    private static void watch() {
        ExamDesk d = Desks.office();
        CHECKS.missing("watch -1", () -> d.watch(-1));
        CHECKS.missing("watch 6", () -> d.watch(6));
        CHECKS.due("nothing to watch", true, () -> d.watch(2));
        CHECKS.due("no watches", 0, () -> d.count(4));
        d.plan();
        d.seat(2);
        CHECKS.due("watch", true, () -> d.watch(2));
        CHECKS.due("the least first", 4, () -> d.watcher(2, 0, 0));
        CHECKS.due("an empty room has none", NONE, () -> d.watcher(2, 1, 0));
        CHECKS.due("no other room", 7, () -> d.watcher(2, 2, 0));
        d.most(4, 1);
        d.most(7, 1);
        CHECKS.due("in place of those who watched", true, () -> d.watch(2));
        CHECKS.due("the same", 4, () -> d.watcher(2, 0, 0));
        d.most(7, 0);
        CHECKS.due("one too few", false, () -> d.watch(2));
        CHECKS.due("nobody watches", 0, () -> d.count(4));
        CHECKS.due("nobody in room 0", NONE, () -> d.watcher(2, 0, 0));
        d.most(7, 1);
        d.enrol(12, 0, true);
        d.plan();
        d.seat(2);
        d.seat(3);
        CHECKS.due("two sessions", true, () -> d.watch(2));
        CHECKS.due("both are at their most", false, () -> d.watch(3));
        CHECKS.due("the other session's stay", 2, () -> d.count(4));
        d.most(7, 2);
        CHECKS.due("one more", true, () -> d.watch(3));
        CHECKS.due("who has time", 7, () -> d.watcher(3, 0, 0));
        CHECKS.due("three watches", 3, () -> d.count(4));
        d.leave(12, 3);
        CHECKS.due("nobody sits", true, () -> d.watch(3));
        CHECKS.due("nobody needed", NONE, () -> d.watcher(3, 0, 0));
        CHECKS.due("two watches", 2, () -> d.count(4));
    }

    /** Papers 0, 1 and 2, each for itself in the rooms 0, 1 and 2: one seat a room. */
    private static ExamDesk threeRooms() {
        ExamDesk d = new ExamDesk();
        d.session(0, 10);
        for (int n = 0; n < 3; n++) {
            d.paper(n, 10);
            d.room(n, 1, 1, false);
            d.enrol(n, n, true);
            d.most(n + 1, 1);
        }
        d.plan();
        d.seat(0);
        return d;
    }

    private static void watchLeavesEnough() {
        ExamDesk d = threeRooms();
        CHECKS.due("watch by rooms", true, () -> d.watch(0));
        CHECKS.due("by rooms", "0/1 1/2 2/3", () -> Desks.watchersOf(d, 0));
        d.own(2, 2, true);
        d.own(3, 2, true);
        CHECKS.due("room 2 wants the first", true, () -> d.watch(0));
        CHECKS.due("it is left", "0/2 1/3 2/1", () -> Desks.watchersOf(d, 0));
        d.own(2, 0, true);
        CHECKS.due("room 0 wants the last", true, () -> d.watch(0));
        CHECKS.due("that is left too", "0/3 1/2 2/1", () -> Desks.watchersOf(d, 0));
        d.own(3, 0, true);
        CHECKS.due("one for two rooms", false, () -> d.watch(0));
        CHECKS.due("nobody", "", () -> Desks.watchersOf(d, 0));
        d.most(9, 6);
        CHECKS.due("the last helps", true, () -> d.watch(0));
        CHECKS.due("where it must", "0/1 1/2 2/9", () -> Desks.watchersOf(d, 0));
        d.own(9, 2, true);
        CHECKS.due("not with its own", true, () -> d.watch(0));
        CHECKS.due("elsewhere", "0/9 1/2 2/1", () -> Desks.watchersOf(d, 0));
    }

    private static void watchByEights() {
        ExamDesk d = new ExamDesk();
        d.session(0, 10);
        d.room(1, 6, 6, false);
        for (int p = 0; p < 4; p++) {
            d.paper(p, 10);
        }
        for (int i = 0; i < 10; i++) {
            d.most(i, 1);
        }
        for (int c = 0; c < 36; c++) {
            d.enrol(c, (c + c / 6 * 2) % 4, true);
        }
        d.own(0, 4, true);
        d.own(1, 3, true);
        d.plan();
        CHECKS.due("36 sit", 0, () -> d.seat(0));
        CHECKS.due("36 need", true, () -> d.watch(0));
        CHECKS.due("five", "1/0 1/2 1/3 1/4 1/5", () -> Desks.watchersOf(d, 0));
        for (int c = 35; c >= 32; c--) {
            d.leave(c, 0);
        }
        CHECKS.due("watches stay", 5, () -> d.count(4));
        CHECKS.due("32 need", true, () -> d.watch(0));
        CHECKS.due("four", "1/0 1/2 1/3 1/4", () -> Desks.watchersOf(d, 0));
        for (int c = 31; c >= 9; c--) {
            d.leave(c, 0);
        }
        CHECKS.due("9 need", true, () -> d.watch(0));
        CHECKS.due("two", "1/0 1/2", () -> Desks.watchersOf(d, 0));
        d.leave(8, 0);
        CHECKS.due("8 need", true, () -> d.watch(0));
        CHECKS.due("one", "1/0", () -> Desks.watchersOf(d, 0));
    }

    private static void watcher() {
        ExamDesk d = Desks.busyOffice();
        CHECKS.missing("watcher in -1", () -> d.watcher(-1, 0, 0));
        CHECKS.missing("watcher in 6", () -> d.watcher(6, 0, 0));
        CHECKS.missing("watcher in room -1", () -> d.watcher(2, -1, 0));
        CHECKS.missing("watcher in room 4", () -> d.watcher(2, 4, 0));
        CHECKS.missing("watcher -1", () -> d.watcher(2, 0, -1));
        CHECKS.due("watcher 0", 4, () -> d.watcher(2, 0, 0));
        CHECKS.due("watcher 1", NONE, () -> d.watcher(2, 0, 1));
        CHECKS.due("a far watcher", NONE, () -> d.watcher(2, 0, Integer.MAX_VALUE));
        CHECKS.due("a room without seats", NONE, () -> d.watcher(2, 3, 0));
        CHECKS.due("another session", NONE, () -> d.watcher(3, 0, 0));
    }

    private static void count() {
        ExamDesk d = Desks.busyOffice();
        CHECKS.refused("count -1", () -> d.count(-1));
        CHECKS.refused("count 5", () -> d.count(5));
        d.most(3, 2);
        CHECKS.due("papers held", 2, () -> d.count(0));
        CHECKS.due("enrolments", 4, () -> d.count(1));
        CHECKS.due("sessions", 1, () -> d.count(2));
        CHECKS.due("seats", 4, () -> d.count(3));
        CHECKS.due("watches", 2, () -> d.count(4));
        d.enrol(10, 1, true);
        d.enrol(10, 8, true);
        CHECKS.due("enrolments for all papers", 6, () -> d.count(1));
        d.plan();
        d.seat(2);
        d.seat(3);
        d.watch(2);
        d.watch(3);
        CHECKS.due("two sessions", 2, () -> d.count(2));
        CHECKS.due("seats of both", 5, () -> d.count(3));
        CHECKS.due("watches of both", 3, () -> d.count(4));
        d.fix(0, 0);
        d.plan();
        CHECKS.due("no plan, no sessions", 0, () -> d.count(2));
    }

    /** The dearest plan, as often as an object is used. */
    private static void manyCalls() {
        ExamDesk d = Desks.withSessions(9, 6);
        d.rule(TOGETHER, 7, 8, true);
        d.rule(APART, 7, 8, true);
        for (int n = 0; n < 495; n++) {
            CHECKS.due("no plan of nine", NONE, d::plan);
        }
    }
}
