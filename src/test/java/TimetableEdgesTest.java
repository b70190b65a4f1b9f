import java.util.function.Consumer;

/** Each sentence on papers, sessions, enrolments, rules and plans that names a boundary case. */
public final class TimetableEdgesTest {
    private static final int NONE = Desks.NONE;
    private static final int LEAST = Desks.LEAST;
    private static final int GREATEST = Desks.GREATEST;
    private static final int TOGETHER = Desks.TOGETHER;
    private static final int APART = Desks.APART;
    private static final int BEFORE = Desks.BEFORE;

    private static final int[] NO_MINUTES = {LEAST, -1, 301, GREATEST};
    private static final int[] NO_PAPERS = {LEAST, -1, 9, GREATEST};
    private static final int[] NO_SESSIONS = {LEAST, -1, 6, GREATEST};
    private static final int[] NO_CANDIDATES = {LEAST, -1, 40, GREATEST};
    private static final int[] NO_KINDS = {LEAST, -1, 3, GREATEST};

    private static final Checks CHECKS = new Checks();

    public static void main(String[] args) {
        newPapersAndSessions();
        newEnrolments();
        newRules();
        paperMinutes();
        paperNumbers();
        paperHeldOrNot();
        paperTakesThePlan();
        sessionMinutes();
        sessionNumbers();
        sessionTakesThePlan();
        enrolNumbers();
        enrolAll();
        enrolTakesThePlanIfItWasNot();
        extraNumbers();
        extraLeavesSeats();
        ruleOfOnePaper();
        ruleNumbers();
        ruleTakesThePlanIfItWasNot();
        fixNumbers();
        fixTakesThePlan();
        clashNumbers();
        clashOfNoneAndAll();
        planOfNoPaper();
        planWithoutSessions();
        planOfUpToSixSessions();
        planWithJustTheMinutes();
        planWithOneAfterTheOther();
        planTogetherAndApart();
        planOfFixedPapers();
        planWithoutPapersNotHeld();
        planThatIsNone();
        planTakesSeatsAndWatches();
        planGoesAtBothEnds();
        lowerSessionForTheLowestPaper();
        plannedNumbers();
        plannedNone();
        strainOfPairs();
        strainOfManySessions();
        CHECKS.finish("TimetableEdgesTest");
    }

    /** "0 at first: it is not held", "0 at first: closed"; no paper is fixed. */
    private static void newPapersAndSessions() {
        ExamDesk d = new ExamDesk();
        for (int n = 0; n < 9; n++) {
            int p = n;
            CHECKS.due("at first planned", NONE, () -> d.planned(p));
            CHECKS.due("at first fixed", NONE, () -> d.fix(p, NONE));
            CHECKS.due("at first minutes", 0, () -> d.paper(p, 0));
        }
        for (int n = 0; n < 6; n++) {
            int s = n;
            CHECKS.due("at first open", 0, () -> d.session(s, 0));
        }
        CHECKS.due("at first held", 0, () -> d.count(0));
        CHECKS.due("at first sessions used", 0, () -> new ExamDesk().count(2));
        CHECKS.illState("at first no plan", () -> new ExamDesk().seat(0));
        CHECKS.due("at first strain", 0, d::strain);
    }

    /** "each may be ENROLLED": nobody is at first, and nobody has extra time. */
    private static void newEnrolments() {
        ExamDesk d = new ExamDesk();
        for (int n = 0; n < 360; n++) {
            int c = n / 9;
            int p = n % 9;
            CHECKS.due("at first enrolled", false, () -> d.enrol(c, p, false));
        }
        for (int n = 0; n < 40; n++) {
            int c = n;
            CHECKS.due("at first extra time", false, () -> d.extra(c, false));
        }
        for (int n = 0; n < 81; n++) {
            int a = n / 9;
            int b = n % 9;
            CHECKS.due("at first a clash", 0, () -> d.clash(a, b));
        }
        CHECKS.due("at first enrolments", 0, () -> d.count(1));
    }

    private static void newRules() {
        ExamDesk d = new ExamDesk();
        for (int n = 0; n < 243; n++) {
            int kind = n / 81;
            int a = n / 9 % 9;
            int b = n % 9;
            if (a != b) {
                CHECKS.due("at first a rule", false, () -> d.rule(kind, a, b, false));
            }
        }
    }

    /** "IllegalArgumentException: they are not 0 .. 300." */
    private static void paperMinutes() {
        ExamDesk d = new ExamDesk();
        int was = 0;
        for (int minutes : new int[] {0, 1, 299, 300, 0, 300, 1}) {
            int old = was;
            CHECKS.due("paper of " + minutes, old, () -> d.paper(4, minutes));
            was = minutes;
        }
        for (int wrong : NO_MINUTES) {
            CHECKS.refused("paper of " + wrong, () -> d.paper(4, wrong));
            CHECKS.due("paper is still of 1", 1, () -> d.paper(4, 1));
        }
    }

    /** "PAPERS are 0 .. 8", and NoSuchElementException comes first. */
    private static void paperNumbers() {
        ExamDesk d = new ExamDesk();
        for (int n = 0; n < 9; n++) {
            int p = n;
            CHECKS.due("paper " + p, 0, () -> d.paper(p, 100 + p));
        }
        for (int wrong : NO_PAPERS) {
            CHECKS.missing("paper " + wrong, () -> d.paper(wrong, 60));
            for (int minutes : NO_MINUTES) {
                CHECKS.missing("paper " + wrong + " of " + minutes, () -> d.paper(wrong, minutes));
            }
        }
        for (int n = 0; n < 9; n++) {
            int p = n;
            CHECKS.due("paper as it was " + p, 100 + p, () -> d.paper(p, 0));
        }
    }

    private static void paperHeldOrNot() {
        ExamDesk d = Desks.withSessions(9, 1);
        CHECKS.due("all held", 9, () -> d.count(0));
        d.paper(0, 0);
        CHECKS.due("one not held", 8, () -> d.count(0));
        CHECKS.due("it is not planned", "1:-00000000", () -> Desks.planOf(d));
        d.paper(0, 1);
        CHECKS.due("held for a minute", 9, () -> d.count(0));
        CHECKS.due("it is planned", "1:000000000", () -> Desks.planOf(d));
    }

    /** "The plan goes, with all seats and watches": whatever the minutes were. */
    private static void paperTakesThePlan() {
        Desks.afterCall(CHECKS, "paper 0 to 0", true, d -> d.paper(0, 0));
        Desks.afterCall(CHECKS, "paper 0 as it was", true, d -> d.paper(0, 60));
        Desks.afterCall(CHECKS, "paper 8 as it was", true, d -> d.paper(8, 0));
        Desks.afterCall(CHECKS, "paper 8 to 300", true, d -> d.paper(8, 300));
        Desks.afterCall(CHECKS, "paper of 301", false,
                d -> CHECKS.refused("paper of 301", () -> d.paper(0, 301)));
        Desks.afterCall(CHECKS, "paper 9", false,
                d -> CHECKS.missing("paper 9", () -> d.paper(9, 60)));
    }

    /** "A session's minutes, likewise." */
    private static void sessionMinutes() {
        ExamDesk d = new ExamDesk();
        int was = 0;
        for (int minutes : new int[] {0, 1, 299, 300, 0, 300, 1}) {
            int old = was;
            CHECKS.due("session of " + minutes, old, () -> d.session(3, minutes));
            was = minutes;
        }
        for (int wrong : NO_MINUTES) {
            CHECKS.refused("session of " + wrong, () -> d.session(3, wrong));
            CHECKS.due("session is still of 1", 1, () -> d.session(3, 1));
        }
    }

    /** "SESSIONS are 0 .. 5". */
    private static void sessionNumbers() {
        ExamDesk d = new ExamDesk();
        for (int n = 0; n < 6; n++) {
            int s = n;
            CHECKS.due("session " + s, 0, () -> d.session(s, 100 + s));
        }
        for (int wrong : NO_SESSIONS) {
            CHECKS.missing("session " + wrong, () -> d.session(wrong, 60));
            for (int minutes : NO_MINUTES) {
                CHECKS.missing("session " + wrong + " of " + minutes,
                        () -> d.session(wrong, minutes));
            }
        }
        for (int n = 0; n < 6; n++) {
            int s = n;
            CHECKS.due("session as it was " + s, 100 + s, () -> d.session(s, 0));
        }
    }

    private static void sessionTakesThePlan() {
        Desks.afterCall(CHECKS, "session 2 to 0", true, d -> d.session(2, 0));
        Desks.afterCall(CHECKS, "session 2 as it was", true, d -> d.session(2, 60));
        Desks.afterCall(CHECKS, "session 5 as it was", true, d -> d.session(5, 0));
        Desks.afterCall(CHECKS, "session 5 to 300", true, d -> d.session(5, 300));
        Desks.afterCall(CHECKS, "session of 301", false,
                d -> CHECKS.refused("session of 301", () -> d.session(2, 301)));
        Desks.afterCall(CHECKS, "session 6", false,
                d -> CHECKS.missing("session 6", () -> d.session(6, 60)));
    }

    /** "CANDIDATES are 0 .. 39". */
    private static void enrolNumbers() {
        ExamDesk d = new ExamDesk();
        for (int c : new int[] {0, 39}) {
            for (int p : new int[] {0, 8}) {
                CHECKS.due("enrol " + c + " for " + p, true, () -> d.enrol(c, p, true));
                CHECKS.due("enrol again", false, () -> d.enrol(c, p, true));
            }
        }
        for (boolean is : new boolean[] {true, false}) {
            for (int wrong : NO_CANDIDATES) {
                CHECKS.missing("enrol " + wrong, () -> d.enrol(wrong, 0, is));
                CHECKS.missing("enrol " + wrong + " for 9", () -> d.enrol(wrong, 9, is));
            }
            for (int wrong : NO_PAPERS) {
                CHECKS.missing("enrol for " + wrong, () -> d.enrol(0, wrong, is));
            }
        }
        CHECKS.due("enrolled in all", 4, () -> d.count(1));
        CHECKS.due("not enrolled, one above", false, () -> d.enrol(1, 0, false));
        CHECKS.due("not enrolled, one below", false, () -> d.enrol(38, 8, false));
    }

    private static void enrolAll() {
        ExamDesk d = new ExamDesk();
        for (int n = 0; n < 360; n++) {
            int c = n / 9;
            int p = n % 9;
            CHECKS.due("enrol", true, () -> d.enrol(c, p, true));
        }
        CHECKS.due("all enrolments", 360, () -> d.count(1));
        CHECKS.due("no more", false, () -> d.enrol(39, 8, true));
        CHECKS.due("all still", 360, () -> d.count(1));
        CHECKS.due("one less", true, () -> d.enrol(39, 8, false));
        CHECKS.due("one less is counted", 359, () -> d.count(1));
        CHECKS.due("all for both", 40, () -> d.clash(0, 7));
        CHECKS.due("all but one for both", 39, () -> d.clash(0, 8));
    }

    /** "The plan goes likewise, if it was not." */
    private static void enrolTakesThePlanIfItWasNot() {
        Desks.afterCall(CHECKS, "enrolled as it was", false, d -> d.enrol(10, 0, true));
        Desks.afterCall(CHECKS, "not enrolled as it was", false, d -> d.enrol(10, 1, false));
        Desks.afterCall(CHECKS, "enrolled", true, d -> d.enrol(39, 0, true));
        Desks.afterCall(CHECKS, "enrolled for what is not held", true, d -> d.enrol(39, 8, true));
        Desks.afterCall(CHECKS, "enrolled no more", true, d -> d.enrol(12, 1, false));
    }

    private static void extraNumbers() {
        ExamDesk d = new ExamDesk();
        for (int c : new int[] {0, 39}) {
            CHECKS.due("extra " + c, true, () -> d.extra(c, true));
            CHECKS.due("extra again " + c, false, () -> d.extra(c, true));
        }
        for (int wrong : NO_CANDIDATES) {
            CHECKS.missing("extra " + wrong, () -> d.extra(wrong, true));
            CHECKS.missing("no extra " + wrong, () -> d.extra(wrong, false));
        }
        CHECKS.due("no extra, one above", false, () -> d.extra(1, false));
        CHECKS.due("no extra, one below", false, () -> d.extra(38, false));
        CHECKS.due("extra no more", true, () -> d.extra(39, false));
        CHECKS.due("extra no more, again", false, () -> d.extra(39, false));
    }

    /** "(seats stay)". */
    private static void extraLeavesSeats() {
        Desks.afterCall(CHECKS, "extra time for one who sits", false, d -> d.extra(10, true));
        Desks.afterCall(CHECKS, "no extra time for one who sits", false, d -> d.extra(13, false));
    }

    /** "IllegalArgumentException: they are one." */
    private static void ruleOfOnePaper() {
        ExamDesk d = new ExamDesk();
        for (int n = 0; n < 27; n++) {
            int kind = n / 9;
            int p = n % 9;
            CHECKS.refused("rule of one", () -> d.rule(kind, p, p, true));
            CHECKS.refused("no rule of one", () -> d.rule(kind, p, p, false));
            if (p < 8) {
                CHECKS.due("rule of neighbours", true, () -> d.rule(kind, p, p + 1, true));
            }
        }
        for (int p : NO_PAPERS) {
            CHECKS.missing("no paper twice is first no paper", () -> d.rule(TOGETHER, p, p, true));
        }
        for (int kind : NO_KINDS) {
            CHECKS.missing("no rule of one is first no rule", () -> d.rule(kind, 3, 3, true));
        }
    }

    private static void ruleNumbers() {
        ExamDesk d = new ExamDesk();
        for (int kind : NO_KINDS) {
            CHECKS.missing("rule " + kind, () -> d.rule(kind, 0, 8, true));
            CHECKS.missing("rule not " + kind, () -> d.rule(kind, 0, 8, false));
        }
        for (int kind = 0; kind < 3; kind++) {
            int k = kind;
            for (int wrong : NO_PAPERS) {
                CHECKS.missing("rule of " + wrong, () -> d.rule(k, wrong, 8, true));
                CHECKS.missing("rule with " + wrong, () -> d.rule(k, 0, wrong, true));
            }
            CHECKS.due("rule of the first and the last", true, () -> d.rule(k, 0, 8, true));
            CHECKS.due("so it is", false, () -> d.rule(k, 0, 8, true));
            CHECKS.due("turned", k == BEFORE, () -> d.rule(k, 8, 0, true));
        }
    }

    private static void ruleTakesThePlanIfItWasNot() {
        for (int kind = 0; kind < 3; kind++) {
            int k = kind;
            Desks.afterCall(CHECKS, "no rule as it was", false, d -> d.rule(k, 7, 8, false));
            Desks.afterCall(CHECKS, "a rule of what is not held", true,
                    d -> d.rule(k, 7, 8, true));
            Desks.afterCall(CHECKS, "a rule", true, d -> d.rule(k, 0, 1, true));
            Desks.afterCall(CHECKS, "a rule of one", false,
                    d -> CHECKS.refused("a rule of one", () -> d.rule(k, 0, 0, true)));
        }
        ExamDesk kept = Desks.office();
        kept.rule(TOGETHER, 0, 1, true);
        kept.plan();
        kept.seat(2);
        kept.watch(2);
        CHECKS.due("a rule as it was", false, () -> kept.rule(TOGETHER, 0, 1, true));
        CHECKS.due("the same, turned", false, () -> kept.rule(TOGETHER, 1, 0, true));
        Desks.busy(CHECKS, "a rule as it was", kept);
        CHECKS.due("a rule that goes", true, () -> kept.rule(TOGETHER, 1, 0, false));
        Desks.allGone(CHECKS, "a rule that goes", kept);
    }

    /** "(NONE: it is not): what it was." */
    private static void fixNumbers() {
        ExamDesk d = new ExamDesk();
        for (int p : new int[] {0, 8}) {
            int was = NONE;
            for (int s : new int[] {0, 5, 5, NONE, NONE, 3}) {
                int old = was;
                CHECKS.due("fix " + p + " in " + s, old, () -> d.fix(p, s));
                was = s;
            }
        }
        for (int wrong : new int[] {LEAST, -2, 6, GREATEST}) {
            CHECKS.missing("fix in " + wrong, () -> d.fix(0, wrong));
            CHECKS.missing("fix 9 in " + wrong, () -> d.fix(9, wrong));
        }
        for (int wrong : NO_PAPERS) {
            CHECKS.missing("fix " + wrong, () -> d.fix(wrong, 0));
            CHECKS.missing("fix no more " + wrong, () -> d.fix(wrong, NONE));
        }
        CHECKS.due("fixed as it was", 3, () -> d.fix(0, NONE));
        CHECKS.due("the last too", 3, () -> d.fix(8, NONE));
        CHECKS.due("the others were not", NONE, () -> d.fix(1, NONE));
    }

    private static void fixTakesThePlan() {
        Desks.afterCall(CHECKS, "fixed where it is", true, d -> d.fix(0, 2));
        Desks.afterCall(CHECKS, "not fixed as it was", true, d -> d.fix(0, NONE));
        Desks.afterCall(CHECKS, "what is not held, not fixed", true, d -> d.fix(8, NONE));
        Desks.afterCall(CHECKS, "fixed in 6", false,
                d -> CHECKS.missing("fixed in 6", () -> d.fix(0, 6)));
        Desks.afterCall(CHECKS, "fixed in -2", false,
                d -> CHECKS.missing("fixed in -2", () -> d.fix(0, -2)));
    }

    private static void clashNumbers() {
        ExamDesk d = new ExamDesk();
        d.enrol(39, 0, true);
        d.enrol(39, 8, true);
        for (int wrong : NO_PAPERS) {
            CHECKS.missing("clash of " + wrong, () -> d.clash(wrong, 0));
            CHECKS.missing("clash with " + wrong, () -> d.clash(8, wrong));
            CHECKS.missing("clash with itself of " + wrong, () -> d.clash(wrong, wrong));
        }
        CHECKS.due("the first with the last", 1, () -> d.clash(0, 8));
        CHECKS.due("the last with the first", 1, () -> d.clash(8, 0));
    }

    /** "How many candidates are enrolled for both papers (for one, if they are the same)." */
    private static void clashOfNoneAndAll() {
        ExamDesk d = new ExamDesk();
        for (int n = 0; n < 40; n++) {
            int c = n;
            d.enrol(c, 3, true);
            CHECKS.due("one more", c + 1, () -> d.clash(3, 3));
            CHECKS.due("for both", c, () -> d.clash(3, 4));
            d.enrol(c, 4, true);
            CHECKS.due("for both now", c + 1, () -> d.clash(4, 3));
        }
        CHECKS.due("none", 0, () -> d.clash(3, 5));
        CHECKS.due("none of one", 0, () -> d.clash(5, 5));
    }

    private static void planOfNoPaper() {
        ExamDesk d = new ExamDesk();
        CHECKS.due("no paper, no session", "0:---------", () -> Desks.planOf(d));
        CHECKS.due("it is a plan", 0, () -> d.seat(5));
        d.session(0, 300);
        CHECKS.illState("it went", () -> d.seat(5));
        CHECKS.due("no paper", "0:---------", () -> Desks.planOf(d));
        CHECKS.due("no sessions used", 0, () -> d.count(2));
    }

    /** "NONE if there is no plan": all sessions are closed. */
    private static void planWithoutSessions() {
        ExamDesk d = new ExamDesk();
        d.paper(8, 1);
        CHECKS.due("all closed", "-1:---------", () -> Desks.planOf(d));
        d.session(5, 1);
        CHECKS.due("one open for a minute", "1:--------5", () -> Desks.planOf(d));
        d.session(5, 0);
        CHECKS.due("closed again", "-1:---------", () -> Desks.planOf(d));
        d.paper(8, 0);
        CHECKS.due("not held", "0:---------", () -> Desks.planOf(d));
    }

    private static void planOfUpToSixSessions() {
        String[] due = {"1:0--------", "2:01-------", "3:012------", "4:0123-----", "5:01234----",
            "6:012345---", "-1:---------"};
        ExamDesk d = Desks.withSessions(0, 6);
        for (int n = 0; n < 7; n++) {
            int p = n;
            d.paper(p, 60);
            d.enrol(20, p, true);
            CHECKS.due("papers that clash: " + (p + 1), due[p], () -> Desks.planOf(d));
            CHECKS.due("sessions used", p < 6 ? p + 1 : 0, () -> d.count(2));
        }
        ExamDesk fewer = Desks.withSessions(6, 5);
        for (int p = 0; p < 6; p++) {
            fewer.enrol(20, p, true);
        }
        CHECKS.due("six papers, five sessions", NONE, fewer::plan);
        fewer.session(5, 60);
        CHECKS.due("six papers, six sessions", 6, fewer::plan);
    }

    /** "an open session with at least its minutes". */
    private static void planWithJustTheMinutes() {
        for (int minutes : new int[] {1, 2, 299, 300}) {
            ExamDesk d = new ExamDesk();
            d.paper(0, minutes);
            d.session(1, minutes - 1);
            CHECKS.due("a minute short of " + minutes, NONE, d::plan);
            d.session(1, minutes);
            CHECKS.due("just " + minutes, "1:1--------", () -> Desks.planOf(d));
            d.paper(0, minutes - 1);
            CHECKS.due("a minute less than " + minutes, minutes == 1 ? 0 : 1, d::plan);
        }
    }

    /** "a BEFORE b: a's session is a lower one than b's". */
    private static void planWithOneAfterTheOther() {
        ExamDesk d = Desks.withSessions(2, 1);
        d.rule(BEFORE, 1, 0, true);
        CHECKS.due("one session", NONE, d::plan);
        d.session(5, 60);
        CHECKS.due("the first and the last", "2:50-------", () -> Desks.planOf(d));
        d.session(4, 60);
        d.session(0, 0);
        CHECKS.due("neighbours", "2:54-------", () -> Desks.planOf(d));
        d.fix(1, 5);
        CHECKS.due("none behind the last", NONE, d::plan);
        d.fix(1, 4);
        d.fix(0, 4);
        CHECKS.due("the same is no lower one", NONE, d::plan);
        d.fix(0, 5);
        CHECKS.due("a lower one", "2:54-------", () -> Desks.planOf(d));
        d.rule(BEFORE, 0, 1, true);
        CHECKS.due("each before the other", NONE, d::plan);
    }

    /** "papers that clash are in different ones, so are those APART; those TOGETHER are ..". */
    private static void planTogetherAndApart() {
        ExamDesk d = Desks.withSessions(9, 1);
        CHECKS.due("nine in one session", "1:000000000", () -> Desks.planOf(d));
        d.rule(APART, 8, 7, true);
        CHECKS.due("apart in one session", NONE, d::plan);
        d.session(5, 60);
        CHECKS.due("apart in two", "2:000000005", () -> Desks.planOf(d));
        d.rule(TOGETHER, 0, 8, true);
        CHECKS.due("together with the first", "2:000000050", () -> Desks.planOf(d));
        d.rule(TOGETHER, 7, 0, true);
        CHECKS.due("together with both", NONE, d::plan);
        d.rule(APART, 7, 8, false);
        CHECKS.due("no more apart", "1:000000000", () -> Desks.planOf(d));
        d.enrol(39, 7, true);
        d.enrol(39, 8, true);
        CHECKS.due("but they clash", NONE, d::plan);
        d.enrol(39, 8, false);
        CHECKS.due("they clash no more", "1:000000000", () -> Desks.planOf(d));
    }

    /** "FIXED ones are where they are fixed." */
    private static void planOfFixedPapers() {
        ExamDesk d = Desks.withSessions(2, 5);
        d.fix(0, 5);
        CHECKS.due("fixed where it is closed", NONE, d::plan);
        d.session(5, 59);
        CHECKS.due("fixed where it is too short", NONE, d::plan);
        d.session(5, 60);
        CHECKS.due("fixed in the last", "1:55-------", () -> Desks.planOf(d));
        d.fix(1, 0);
        CHECKS.due("fixed in the first", "2:50-------", () -> Desks.planOf(d));
        d.rule(TOGETHER, 0, 1, true);
        CHECKS.due("together, but fixed elsewhere", NONE, d::plan);
        d.fix(1, 5);
        CHECKS.due("together where both are fixed", "1:55-------", () -> Desks.planOf(d));
        d.rule(TOGETHER, 0, 1, false);
        d.rule(APART, 0, 1, true);
        CHECKS.due("apart, but fixed in the same", NONE, d::plan);
    }

    /** "(Rules of papers that are not held do not matter.)" */
    private static void planWithoutPapersNotHeld() {
        ExamDesk d = Desks.withSessions(3, 1);
        d.paper(1, 0);
        for (int kind = 0; kind < 3; kind++) {
            d.rule(kind, 0, 1, true);
            d.rule(kind, 1, 2, true);
        }
        d.enrol(0, 0, true);
        d.enrol(0, 1, true);
        d.fix(1, 5);
        CHECKS.due("nothing of it matters", "1:0-0------", () -> Desks.planOf(d));
        d.paper(1, 1);
        CHECKS.due("all of it matters", NONE, d::plan);
        d.paper(0, 0);
        d.paper(2, 0);
        d.session(5, 1);
        CHECKS.due("it alone", "1:-5-------", () -> Desks.planOf(d));
    }

    /** "NONE if there is no plan (there is none then)." */
    private static void planThatIsNone() {
        ExamDesk d = Desks.busyOffice();
        d.fix(0, 0);
        CHECKS.due("no plan", NONE, d::plan);
        Desks.allGone(CHECKS, "no plan", d);
        CHECKS.due("no strain", 0, d::strain);
        CHECKS.due("still none", NONE, d::plan);
        d.fix(0, NONE);
        Desks.allGone(CHECKS, "nothing comes back", d);
        CHECKS.due("a plan again", 1, d::plan);
    }

    /** "Seats and watches go", with a plan that is just the same too. */
    private static void planTakesSeatsAndWatches() {
        ExamDesk d = Desks.busyOffice();
        CHECKS.due("the same plan", "1:22-------", () -> Desks.planOf(d));
        CHECKS.due("no seats", 0, () -> d.count(3));
        CHECKS.due("no watches", 0, () -> d.count(4));
        for (int c = 10; c < 14; c++) {
            int candidate = c;
            CHECKS.due("no seat", NONE, () -> d.where(candidate, 2));
        }
        CHECKS.due("all can be seated again", 0, () -> d.seat(2));
        CHECKS.due("all sit", 4, () -> d.count(3));
    }

    /** "The plan goes, with all seats and watches": those of the first and the last of all too. */
    private static void planGoesAtBothEnds() {
        String all = "0 300: 0/0 3/9, 0 300: 0/0 3/9";
        CHECKS.due("both ends", all, () -> Desks.endsOf(Desks.ends()));
        goneAtBothEnds("paper", d -> d.paper(4, 0));
        goneAtBothEnds("session", d -> d.session(3, 0));
        goneAtBothEnds("enrol", d -> d.enrol(20, 4, true));
        goneAtBothEnds("rule", d -> d.rule(BEFORE, 3, 4, true));
        goneAtBothEnds("fix", d -> d.fix(4, NONE));
        goneAtBothEnds("plan", d -> d.plan());
    }

    private static void goneAtBothEnds(String what, Consumer<ExamDesk> call) {
        ExamDesk d = Desks.ends();
        call.accept(d);
        CHECKS.due(what + ": nobody at the ends", "-1 -1: , -1 -1: ", () -> Desks.endsOf(d));
        CHECKS.due(what + ": no seats", 0, () -> d.count(3));
        CHECKS.due(what + ": no watches", 0, () -> d.count(4));
        CHECKS.due(what + ": nobody has the first seat", NONE, () -> d.who(0, 0, 0, 0));
        CHECKS.due(what + ": nobody has the last seat", NONE, () -> d.who(5, 3, 0, 0));
    }

    /** "of these the one with the lower session for the lowest paper where they differ". */
    private static void lowerSessionForTheLowestPaper() {
        ExamDesk d = Desks.withSessions(9, 6);
        d.rule(APART, 0, 8, true);
        CHECKS.due("the last gives way", "2:000000001", () -> Desks.planOf(d));
        d.fix(8, 0);
        CHECKS.due("the first must give way", "2:100000000", () -> Desks.planOf(d));
        d.fix(8, 5);
        CHECKS.due("next to one that is fixed", "2:000000005", () -> Desks.planOf(d));
        d.rule(BEFORE, 8, 0, true);
        CHECKS.due("none behind the last", NONE, d::plan);
        d.fix(8, 4);
        CHECKS.due("all but the first are before it", "2:544444444", () -> Desks.planOf(d));
        // Two sessions: 0 could be in 0 only with a third one.
        ExamDesk few = Desks.withSessions(3, 6);
        few.paper(2, 90);
        few.session(5, 90);
        few.rule(APART, 0, 1, true);
        CHECKS.due("the second with the third", "2:055------", () -> Desks.planOf(few));
        few.rule(APART, 1, 2, true);
        CHECKS.due("fewer sessions before lower ones", "2:505------", () -> Desks.planOf(few));
    }

    private static void plannedNumbers() {
        ExamDesk d = Desks.withSessions(9, 1);
        d.plan();
        for (int wrong : NO_PAPERS) {
            CHECKS.missing("planned " + wrong, () -> d.planned(wrong));
        }
        CHECKS.due("the first", 0, () -> d.planned(0));
        CHECKS.due("the last", 0, () -> d.planned(8));
    }

    /** "NONE if it is not held, or there is no plan." */
    private static void plannedNone() {
        ExamDesk d = Desks.withSessions(8, 1);
        CHECKS.due("not yet", NONE, () -> d.planned(7));
        CHECKS.due("plan", 1, d::plan);
        CHECKS.due("held", 0, () -> d.planned(7));
        CHECKS.due("not held", NONE, () -> d.planned(8));
        d.fix(8, 0);
        CHECKS.due("the plan went", NONE, () -> d.planned(7));
        CHECKS.due("plan again", 1, d::plan);
        CHECKS.due("fixed, yet not held", NONE, () -> d.planned(8));
    }

    /** "two sessions of which one is right behind the other": nothing is behind the last. */
    private static void strainOfPairs() {
        for (int n = 0; n < 36; n++) {
            int a = n / 6;
            int b = n % 6;
            ExamDesk d = Desks.withSessions(2, 6);
            d.fix(0, a);
            d.fix(1, b);
            d.enrol(39, 0, true);
            if (a != b) {
                d.enrol(39, 1, true);
            } else {
                d.enrol(38, 1, true);
            }
            CHECKS.due("no plan, no strain", 0, d::strain);
            d.plan();
            int due = Math.abs(a - b) == 1 ? 1 : 0;
            CHECKS.due("strain of " + a + " and " + b, due, d::strain);
        }
    }

    private static void strainOfManySessions() {
        ExamDesk d = Desks.withSessions(6, 6);
        for (int c = 0; c < 40; c++) {
            for (int p = 0; p < 6; p++) {
                d.enrol(c, p, true);
            }
        }
        CHECKS.due("no plan yet", 0, d::strain);
        CHECKS.due("six sessions", 6, d::plan);
        CHECKS.due("five times forty", 200, d::strain);
        d.enrol(39, 0, false);
        CHECKS.due("the plan went", 0, d::strain);
        d.plan();
        CHECKS.due("one has the first one off", 199, d::strain);
        d.enrol(38, 3, false);
        d.plan();
        CHECKS.due("one has a middle one off", 197, d::strain);
        d.paper(5, 0);
        d.plan();
        CHECKS.due("the last is not held", 157, d::strain);
    }
}
