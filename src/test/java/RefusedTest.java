import java.util.function.Supplier;

/**
 * Every method with arguments at their bounds, one below, one above, and the least and the greatest
 * int, in all combinations: the exception that the document names first, and none where it names
 * none. A refused call, and one that only asks, changes nothing that later calls show.
 */
public final class RefusedTest {
    private static final int LEAST = Integer.MIN_VALUE;
    private static final int GREATEST = Integer.MAX_VALUE;
    private static final String MISSING = "throws.NoSuchElementException";
    private static final String REFUSED = "throws.IllegalArgumentException";
    private static final String ILL_STATE = "throws.IllegalStateException";
    private static final String NO_THROW = "";

    private static final int[] PAPERS = {LEAST, -1, 0, 8, 9, GREATEST};
    private static final int[] CANDIDATES = {LEAST, -1, 0, 39, 40, GREATEST};
    private static final int[] SESSIONS = {LEAST, -1, 0, 5, 6, GREATEST};
    private static final int[] INVIGILATORS = {LEAST, -1, 0, 9, 10, GREATEST};
    private static final int[] ROOMS = {LEAST, -1, 0, 3, 4, GREATEST};
    private static final int[] KINDS = {LEAST, -1, 0, 1, 2, 3, GREATEST};
    private static final int[] MINUTES = {LEAST, -1, 0, 300, 301, GREATEST};
    private static final int[] UP_TO_SIX = {LEAST, -1, 0, 6, 7, GREATEST};
    private static final int[] ALL_ROOMS = {LEAST, -1, 0, 1, 2, 3, 4, GREATEST};
    private static final int[] SEAT_ROWS = {LEAST, -1, 0, 1, 2, 5, 6, GREATEST};
    private static final int[] SEAT_COLUMNS = {LEAST, -1, 0, 1, 2, 3, 5, 6, GREATEST};
    private static final int[] YES_OR_NO = {0, 1};

    /** A call of the face with these arguments, a boolean being 0 or 1. */
    private interface Body {
        Object on(ExamDesk d, int[] a);
    }

    /** The exception that is due with these arguments. */
    private interface Due {
        String with(int[] a);
    }

    private final Checks checks;
    private final String office;
    private final Supplier<ExamDesk> maker;
    private final boolean planned;
    private final boolean furnished;
    private final String before;

    private RefusedTest(Checks checks, String office, Supplier<ExamDesk> maker,
            boolean planned, boolean furnished) {
        this.checks = checks;
        this.office = office;
        this.maker = maker;
        this.planned = planned;
        this.furnished = furnished;
        this.before = Probe.of(maker);
    }

    public static void main(String[] args) {
        Checks checks = new Checks();
        checks.due("the busy office has seats", 6, () -> busy().count(3));
        checks.due("the busy office has watches", 3, () -> busy().count(4));
        new RefusedTest(checks, "new", ExamDesk::new, false, false).allMethods();
        new RefusedTest(checks, "unplanned", RefusedTest::unplanned, false, true).allMethods();
        new RefusedTest(checks, "busy", RefusedTest::busy, true, true).allMethods();
        checks.finish("RefusedTest");
    }

    private static ExamDesk unplanned() {
        ExamDesk d = new ExamDesk();
        d.paper(0, 60);
        d.paper(1, 60);
        d.paper(8, 1);
        d.session(2, 60);
        d.session(3, 60);
        d.room(0, 2, 3, false);
        d.room(2, 1, 2, true);
        d.room(3, 6, 6, false);
        d.block(3, 5, 5, true);
        d.block(0, 1, 2, true);
        for (int c = 10; c < 15; c++) {
            d.enrol(c, c == 12 ? 1 : 0, true);
        }
        d.enrol(14, 8, true);
        d.enrol(39, 7, true);
        d.extra(13, true);
        d.rule(0, 0, 1, true);
        d.rule(1, 1, 8, true);
        d.rule(2, 0, 8, true);
        d.fix(1, 2);
        d.most(0, 2);
        d.most(4, 1);
        d.most(9, 6);
        d.own(0, 1, true);
        return d;
    }

    /** In session 2 papers 0 and 1, in session 3 paper 8; all sit, and all is watched. */
    private static ExamDesk busy() {
        ExamDesk d = unplanned();
        d.plan();
        d.seat(2);
        d.seat(3);
        d.watch(2);
        d.watch(3);
        return d;
    }

    private static boolean in(int number, int least, int most) {
        return least <= number && number <= most;
    }

    private static String due(boolean exists, boolean allowed) {
        return !exists ? MISSING : !allowed ? REFUSED : NO_THROW;
    }

    private boolean isSeat(int room, int row, int column) {
        int[] rows = {2, 0, 1, 6};
        int[] columns = {3, 0, 2, 6};
        return furnished && in(room, 0, 3)
                && in(row, 0, rows[room] - 1) && in(column, 0, columns[room] - 1);
    }

    private boolean isTaken(int room, int row, int column) {
        boolean inRoom0 = room == 0 && (row == 0 || row == 1 && column == 1);
        return planned && (inRoom0 || room == 2 && column == 0);
    }

    private String dueAtSeat(int room, int row, int column) {
        if (!isSeat(room, row, column)) {
            return MISSING;
        }
        return isTaken(room, row, column) ? ILL_STATE : NO_THROW;
    }

    private void allMethods() {
        timetableMethods();
        roomMethods();
        rotaMethods();
        askingMethods();
    }

    private void timetableMethods() {
        changes("paper", (d, a) -> d.paper(a[0], a[1]),
                a -> due(in(a[0], 0, 8), in(a[1], 0, 300)), PAPERS, MINUTES);
        changes("session", (d, a) -> d.session(a[0], a[1]),
                a -> due(in(a[0], 0, 5), in(a[1], 0, 300)), SESSIONS, MINUTES);
        changes("enrol", (d, a) -> d.enrol(a[0], a[1], a[2] == 1),
                a -> due(in(a[0], 0, 39) && in(a[1], 0, 8), true), CANDIDATES, PAPERS, YES_OR_NO);
        changes("extra", (d, a) -> d.extra(a[0], a[1] == 1),
                a -> due(in(a[0], 0, 39), true), CANDIDATES, YES_OR_NO);
        changes("rule", (d, a) -> d.rule(a[0], a[1], a[2], a[3] == 1),
                a -> due(in(a[0], 0, 2) && in(a[1], 0, 8) && in(a[2], 0, 8), a[1] != a[2]),
                KINDS, PAPERS, PAPERS, YES_OR_NO);
        changes("fix", (d, a) -> d.fix(a[0], a[1]),
                a -> due(in(a[0], 0, 8) && in(a[1], -1, 5), true),
                PAPERS, new int[] {LEAST, -2, -1, 0, 5, 6, GREATEST});
    }

    private void roomMethods() {
        changes("room", (d, a) -> {
            d.room(a[0], a[1], a[2], a[3] == 1);
            return "void";
        }, a -> due(in(a[0], 0, 3), in(a[1], 0, 6) && in(a[2], 0, 6)),
                ROOMS, UP_TO_SIX, UP_TO_SIX, YES_OR_NO);
        changes("block", (d, a) -> d.block(a[0], a[1], a[2], a[3] == 1),
                a -> dueAtSeat(a[0], a[1], a[2]), ALL_ROOMS, SEAT_ROWS, SEAT_COLUMNS, YES_OR_NO);
        changes("seat", (d, a) -> d.seat(a[0]),
                a -> !in(a[0], 0, 5) ? MISSING : planned ? NO_THROW : ILL_STATE, SESSIONS);
        changes("leave", (d, a) -> d.leave(a[0], a[1]),
                a -> due(in(a[0], 0, 39) && in(a[1], 0, 5), true), CANDIDATES, SESSIONS);
    }

    private void rotaMethods() {
        changes("most", (d, a) -> d.most(a[0], a[1]),
                a -> due(in(a[0], 0, 9), in(a[1], 0, 6)), INVIGILATORS, UP_TO_SIX);
        changes("own", (d, a) -> d.own(a[0], a[1], a[2] == 1),
                a -> due(in(a[0], 0, 9) && in(a[1], 0, 8), true), INVIGILATORS, PAPERS, YES_OR_NO);
        changes("watch", (d, a) -> d.watch(a[0]), a -> due(in(a[0], 0, 5), true), SESSIONS);
    }

    private void askingMethods() {
        asks("clash", (d, a) -> d.clash(a[0], a[1]),
                a -> due(in(a[0], 0, 8) && in(a[1], 0, 8), true), PAPERS, PAPERS);
        asks("planned", (d, a) -> d.planned(a[0]), a -> due(in(a[0], 0, 8), true), PAPERS);
        asks("strain", (d, a) -> d.strain(), a -> NO_THROW);
        asks("where", (d, a) -> d.where(a[0], a[1]),
                a -> due(in(a[0], 0, 39) && in(a[1], 0, 5), true), CANDIDATES, SESSIONS);
        asks("who", (d, a) -> d.who(a[0], a[1], a[2], a[3]),
                a -> due(in(a[0], 0, 5) && isSeat(a[1], a[2], a[3]), true),
                SESSIONS, ALL_ROOMS, SEAT_ROWS, SEAT_COLUMNS);
        asks("watcher", (d, a) -> d.watcher(a[0], a[1], a[2]),
                a -> due(in(a[0], 0, 5) && in(a[1], 0, 3) && a[2] >= 0, true),
                SESSIONS, ROOMS, new int[] {LEAST, -1, 0, 1, GREATEST});
        asks("count", (d, a) -> d.count(a[0]), a -> due(true, in(a[0], 0, 4)),
                new int[] {LEAST, -1, 0, 1, 2, 3, 4, 5, GREATEST});
    }

    private void changes(String name, Body body, Due due, int[]... values) {
        combine(name, body, due, false, values);
    }

    private void asks(String name, Body body, Due due, int[]... values) {
        combine(name, body, due, true, values);
    }

    private void combine(String name, Body body, Due due, boolean asksOnly, int[][] values) {
        int combinations = 1;
        for (int[] some : values) {
            combinations *= some.length;
        }
        for (int n = 0; n < combinations; n++) {
            int[] arguments = new int[values.length];
            int rest = n;
            for (int i = 0; i < values.length; i++) {
                arguments[i] = values[i][rest % values[i].length];
                rest /= values[i].length;
            }
            one(name, body, due.with(arguments), asksOnly, arguments);
        }
    }

    private void one(String name, Body body, String due, boolean asksOnly, int[] a) {
        String what = office + ": " + name + java.util.Arrays.toString(a);
        String got = Checks.answer(() -> body.on(maker.get(), a));
        checks.due(what + " throws", due, () -> got.startsWith("throws.") ? got : NO_THROW);
        if (asksOnly || !due.equals(NO_THROW)) {
            checks.due(what + " changes nothing", true, () -> Probe.of(() -> {
                ExamDesk d = maker.get();
                Checks.answer(() -> body.on(d, a));
                return d;
            }).equals(before));
        }
    }
}
