import java.util.function.Supplier;

/**
 * All that later calls show of an object, as one text.
 *
 * <p>An object is good for 512 calls, and many of them change it: so each part of the text is asked
 * from an object of its own, made anew in the same way.
 */
final class Probe {
    private final StringBuilder text = new StringBuilder();

    private Probe() {
    }

    static String of(Supplier<ExamDesk> maker) {
        Probe probe = new Probe();
        probe.askPlanAndWatches(maker.get());
        probe.askSeats(maker.get());
        probe.askFlags(maker.get());
        probe.askEnrolments(maker.get());
        probe.askRules(maker.get());
        probe.askRooms(maker.get());
        return probe.text.toString();
    }

    private void add(Supplier<Object> call) {
        text.append(Checks.answer(call)).append(' ');
    }

    private void askPlanAndWatches(ExamDesk d) {
        for (int what = 0; what < 5; what++) {
            int w = what;
            add(() -> d.count(w));
        }
        add(d::strain);
        for (int a = 0; a < 9; a++) {
            int p = a;
            add(() -> d.planned(p));
            for (int b = a; b < 9; b++) {
                int q = b;
                add(() -> d.clash(p, q));
            }
        }
        for (int s = 0; s < 6; s++) {
            askWatchers(d, s);
        }
    }

    private void askWatchers(ExamDesk d, int s) {
        for (int n = 0; n < 12; n++) {
            int room = n / 3;
            int k = n % 3;
            add(() -> d.watcher(s, room, k));
        }
    }

    private void askSeats(ExamDesk d) {
        askCandidates(d);
        for (int seat = 0; seat < 144; seat++) {
            int room = seat / 36;
            int row = seat / 6 % 6;
            int column = seat % 6;
            add(() -> d.who(2, room, row, column));
        }
    }

    private void askCandidates(ExamDesk d) {
        for (int c = 0; c < 40; c++) {
            for (int s = 0; s < 6; s++) {
                int candidate = c;
                int session = s;
                add(() -> d.where(candidate, session));
            }
        }
    }

    private void askFlags(ExamDesk d) {
        for (int c = 0; c < 40; c++) {
            int candidate = c;
            add(() -> d.extra(candidate, true));
        }
        for (int i = 0; i < 10; i++) {
            int j = i;
            add(() -> d.most(j, 0));
            for (int p = 0; p < 9; p++) {
                int q = p;
                add(() -> d.own(j, q, true));
            }
        }
        for (int seat = 0; seat < 144; seat++) {
            int room = seat / 36;
            int row = seat / 6 % 6;
            int column = seat % 6;
            add(() -> d.block(room, row, column, true));
        }
    }

    private void askEnrolments(ExamDesk d) {
        for (int p = 0; p < 9; p++) {
            int q = p;
            add(() -> d.fix(q, ExamDesk.NONE));
            add(() -> d.paper(q, 0));
            for (int c = 0; c < 40; c++) {
                int candidate = c;
                add(() -> d.enrol(candidate, q, true));
            }
        }
        for (int s = 0; s < 6; s++) {
            int session = s;
            add(() -> d.session(session, 0));
        }
    }

    private void askRules(ExamDesk d) {
        for (int n = 0; n < 243; n++) {
            int kind = n / 81;
            int a = n / 9 % 9;
            int b = n % 9;
            if (a != b) {
                add(() -> d.rule(kind, a, b, true));
            }
        }
    }

    /** Whether rooms are for extra time is seen only by who is seated there. */
    private void askRooms(ExamDesk d) {
        for (int c = 0; c < 40; c++) {
            d.enrol(c, 0, true);
        }
        add(d::plan);
        for (int s = 0; s < 6; s++) {
            int session = s;
            add(() -> d.seat(session));
            add(() -> d.watch(session));
            askWatchers(d, session);
        }
        askCandidates(d);
        for (int what = 0; what < 5; what++) {
            int w = what;
            add(() -> d.count(w));
        }
    }
}
