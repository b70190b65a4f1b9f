import java.util.Random;
import java.util.function.Supplier;

/** Long runs of calls, made by a seeded generator, with the answers of the PlainDesk as due. */
public final class ModelTest {
    private static final int CALLS = 512;

    private final Checks checks;
    private final Random random;
    private final String run;
    private final ExamDesk desk = new ExamDesk();
    private final PlainDesk plain = new PlainDesk();
    private int calls = 0;

    private ModelTest(Checks checks, int seed, String kind) {
        this.checks = checks;
        this.random = new Random(seed);
        this.run = kind + " run " + seed;
    }

    public static void main(String[] args) {
        Checks checks = new Checks();
        int runs = args.length > 0 ? Integer.parseInt(args[0]) : 150;
        for (int seed = 0; seed < runs && checks.wrong() < 20; seed++) {
            new ModelTest(checks, seed, "wild").wildRun();
            new ModelTest(checks, seed, "tight").plannedRun(true);
            new ModelTest(checks, seed, "wide").plannedRun(false);
        }
        checks.finish("ModelTest");
    }

    private int below(int bound) {
        return random.nextInt(bound);
    }

    /** Mostly 0 .. bound - 1, now and then one off its ends. */
    private int near(int bound) {
        return below(20) == 0 ? below(2) * (bound + 1) - 1 : below(bound);
    }

    private boolean coin() {
        return random.nextBoolean();
    }

    private void both(String call, Supplier<Object> ofDesk, Supplier<Object> ofPlain) {
        if (calls < CALLS && checks.wrong() < 20) {
            calls++;
            checks.due(run + ", call " + calls + ": " + call, Checks.answer(ofPlain), ofDesk);
        }
    }

    private void paper(int p, int m) {
        both("paper " + p + " " + m, () -> desk.paper(p, m), () -> plain.paper(p, m));
    }

    private void session(int s, int m) {
        both("session " + s + " " + m, () -> desk.session(s, m), () -> plain.session(s, m));
    }

    private void enrol(int c, int p, boolean is) {
        both("enrol " + c + " " + p + " " + is, () -> desk.enrol(c, p, is), () -> plain.enrol(c, p, is));
    }

    private void extra(int c, boolean is) {
        both("extra " + c + " " + is, () -> desk.extra(c, is), () -> plain.extra(c, is));
    }

    private void rule(int kind, int a, int b, boolean is) {
        both("rule " + kind + " " + a + " " + b + " " + is,
                () -> desk.rule(kind, a, b, is), () -> plain.rule(kind, a, b, is));
    }

    private void fix(int p, int s) {
        both("fix " + p + " " + s, () -> desk.fix(p, s), () -> plain.fix(p, s));
    }

    private void clash(int a, int b) {
        both("clash " + a + " " + b, () -> desk.clash(a, b), () -> plain.clash(a, b));
    }

    private void plan() {
        both("plan", desk::plan, plain::plan);
    }

    private void planned(int p) {
        both("planned " + p, () -> desk.planned(p), () -> plain.planned(p));
    }

    private void strain() {
        both("strain", desk::strain, plain::strain);
    }

    private void room(int r, int rows, int columns, boolean is) {
        both("room " + r + " " + rows + " " + columns + " " + is, () -> {
            desk.room(r, rows, columns, is);
            return "void";
        }, () -> {
            plain.room(r, rows, columns, is);
            return "void";
        });
    }

    private void block(int r, int row, int column, boolean is) {
        both("block " + r + " " + row + " " + column + " " + is,
                () -> desk.block(r, row, column, is), () -> plain.block(r, row, column, is));
    }

    private void seat(int s) {
        both("seat " + s, () -> desk.seat(s), () -> plain.seat(s));
    }

    private void leave(int c, int s) {
        both("leave " + c + " " + s, () -> desk.leave(c, s), () -> plain.leave(c, s));
    }

    private void where(int c, int s) {
        both("where " + c + " " + s, () -> desk.where(c, s), () -> plain.where(c, s));
    }

    private void who(int s, int r, int row, int column) {
        both("who " + s + " " + r + " " + row + " " + column,
                () -> desk.who(s, r, row, column), () -> plain.who(s, r, row, column));
    }

    private void most(int i, int sessions) {
        both("most " + i + " " + sessions, () -> desk.most(i, sessions), () -> plain.most(i, sessions));
    }

    private void own(int i, int p, boolean is) {
        both("own " + i + " " + p + " " + is, () -> desk.own(i, p, is), () -> plain.own(i, p, is));
    }

    private void watch(int s) {
        both("watch " + s, () -> desk.watch(s), () -> plain.watch(s));
    }

    private void watcher(int s, int r, int k) {
        both("watcher " + s + " " + r + " " + k, () -> desk.watcher(s, r, k), () -> plain.watcher(s, r, k));
    }

    private void count(int what) {
        both("count " + what, () -> desk.count(what), () -> plain.count(what));
    }

    private void anyCall() {
        switch (below(21)) {
            case 0: paper(near(9), below(3) * 60 + near(2)); break;
            case 1: session(near(6), below(2) * 299 + near(2)); break;
            case 2: enrol(near(40), near(9), coin()); break;
            case 3: extra(near(40), coin()); break;
            case 4: rule(near(3), near(9), near(9), coin()); break;
            case 5: fix(near(9), below(7) - near(2)); break;
            case 6: clash(near(9), near(9)); break;
            case 7: plan(); break;
            case 8: planned(near(9)); break;
            case 9: strain(); break;
            case 10: room(near(4), near(7), near(7), coin()); break;
            case 11: block(near(4), near(5), near(5), coin()); break;
            default: deskCall(); break;
        }
    }

    /** Calls that leave the plan and the rooms as they are. */
    private void deskCall() {
        switch (below(10)) {
            case 0: seat(near(6)); break;
            case 1: leave(near(40), near(6)); break;
            case 2: where(near(40), near(6)); break;
            case 3: who(near(6), near(4), near(6), near(6)); break;
            case 4: most(near(10), near(7)); break;
            case 5: own(near(10), near(9), coin()); break;
            case 6: watch(near(6)); break;
            case 7: watcher(near(6), near(4), near(3)); break;
            case 8: extra(near(40), coin()); break;
            default: count(near(5)); break;
        }
    }

    private void wildRun() {
        for (int i = 0; i < CALLS; i++) {
            anyCall();
        }
    }

    /** Builds an office step by step and looks at all of it, then changes a little, and again. */
    private void plannedRun(boolean tight) {
        for (int s = 0; s < 6; s++) {
            session(s, below(4) == 0 ? 0 : 60 + below(3) * 60);
        }
        for (int p = 0; p < 9; p++) {
            paper(p, below(tight ? 8 : 4) == 0 ? 0 : 40 + below(3) * 40);
        }
        for (int r = 0; r < 4; r++) {
            room(r, below(7), 1 + below(6), below(3) == 0);
        }
        for (int i = 0; i < 10; i++) {
            most(i, below(4));
            own(i, below(9), true);
        }
        for (int c = 0; c < 40; c++) {
            enrol(c, below(9), true);
            if (below(tight ? 3 : 8) == 0) {
                enrol(c, below(9), true);
            }
            if (below(5) == 0) {
                extra(c, true);
            }
        }
        for (int n = below(tight ? 6 : 3); n > 0; n--) {
            rule(below(3), below(9), below(9), true);
        }
        while (calls < CALLS && checks.wrong() < 20) {
            lookRound();
            for (int n = below(3); n > 0; n--) {
                anyCall();
            }
            fix(below(9), below(3) - 1);
            rule(below(3), below(9), below(9), false);
            enrol(below(40), below(9), false);
        }
    }

    /** Some leave, some seats are blocked or not, and those without a seat look for one. */
    private void moveSome(int session) {
        for (int n = 0; n < 4; n++) {
            leave(below(40), session);
        }
        block(below(4), below(4), below(4), coin());
        seat(session);
        who(session, below(4), below(4), below(4));
    }

    private void lookRound() {
        plan();
        strain();
        for (int p = 0; p < 9; p++) {
            planned(p);
        }
        for (int s = 0; s < 6; s++) {
            seat(s);
            watch(s);
        }
        for (int n = 0; n < 10; n++) {
            deskCall();
        }
        for (int n = 0; n < 3; n++) {
            moveSome(below(6));
        }
        for (int s = 0; s < 6; s++) {
            watch(s);
            watcher(s, below(4), below(2));
        }
        for (int what = 0; what < 5; what++) {
            count(what);
        }
    }
}
