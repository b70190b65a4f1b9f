import java.util.ArrayList;
import java.util.HashSet;
import java.util.List;
import java.util.Map;
import java.util.NoSuchElementException;
import java.util.Set;
import java.util.TreeMap;
import java.util.TreeSet;

/** The document told over again by search alone: slow, and made of other parts than the program. */
final class PlainDesk {
    private final int[] paperMinutes = new int[9];
    private final int[] sessionMinutes = new int[6];
    private final List<Set<Integer>> papersOfCandidate = new ArrayList<>();
    private final Set<Integer> extras = new HashSet<>();
    private final Set<List<Integer>> rules = new HashSet<>();
    private final Map<Integer, Integer> fixed = new TreeMap<>();
    private Map<Integer, Integer> plan = null;
    private final int[] rows = new int[4];
    private final int[] columns = new int[4];
    private final boolean[] roomIsExtra = new boolean[4];
    private final Set<Integer> blocked = new HashSet<>();
    /** For each session the candidates by their seats' numbers. */
    private final List<TreeMap<Integer, Integer>> seats = new ArrayList<>();
    private final int[] mostOf = new int[10];
    private final Set<List<Integer>> owns = new HashSet<>();
    /** Session, room, invigilator. */
    private final Set<List<Integer>> watches = new HashSet<>();

    PlainDesk() {
        for (int c = 0; c < 40; c++) {
            papersOfCandidate.add(new TreeSet<>());
        }
        for (int s = 0; s < 6; s++) {
            seats.add(new TreeMap<>());
        }
    }

    private static void exists(int number, int bound) {
        if (number < 0 || number >= bound) {
            throw new NoSuchElementException();
        }
    }

    private static void upTo(int number, int most) {
        if (number < 0 || number > most) {
            throw new IllegalArgumentException();
        }
    }

    private void planGoes() {
        plan = null;
        seats.forEach(Map::clear);
        watches.clear();
    }

    private static <T> boolean put(Set<T> set, T element, boolean is) {
        return is ? set.add(element) : set.remove(element);
    }

    int paper(int p, int minutes) {
        exists(p, 9);
        upTo(minutes, 300);
        planGoes();
        int old = paperMinutes[p];
        paperMinutes[p] = minutes;
        return old;
    }

    int session(int s, int minutes) {
        exists(s, 6);
        upTo(minutes, 300);
        planGoes();
        int old = sessionMinutes[s];
        sessionMinutes[s] = minutes;
        return old;
    }

    boolean enrol(int candidate, int paper, boolean is) {
        exists(candidate, 40);
        exists(paper, 9);
        boolean changed = put(papersOfCandidate.get(candidate), paper, is);
        if (changed) {
            planGoes();
        }
        return changed;
    }

    boolean extra(int candidate, boolean is) {
        exists(candidate, 40);
        return put(extras, candidate, is);
    }

    boolean rule(int kind, int a, int b, boolean is) {
        exists(kind, 3);
        exists(a, 9);
        exists(b, 9);
        if (a == b) {
            throw new IllegalArgumentException();
        }
        boolean turned = kind != 2 && a > b;
        boolean changed = put(rules, turned ? List.of(kind, b, a) : List.of(kind, a, b), is);
        if (changed) {
            planGoes();
        }
        return changed;
    }

    int fix(int paper, int session) {
        exists(paper, 9);
        if (session != -1) {
            exists(session, 6);
        }
        planGoes();
        Integer old = session == -1 ? fixed.remove(paper) : fixed.put(paper, session);
        return old == null ? -1 : old;
    }

    int clash(int a, int b) {
        exists(a, 9);
        exists(b, 9);
        return (int) papersOfCandidate.stream().filter(s -> s.contains(a) && s.contains(b)).count();
    }

    int plan() {
        planGoes();
        search(0, new TreeMap<>());
        return plan == null ? -1 : new HashSet<>(plan.values()).size();
    }

    /** Goes through the plans in their order, so that the first of as few sessions is kept. */
    private void search(int paper, TreeMap<Integer, Integer> part) {
        int used = new HashSet<>(part.values()).size();
        if (plan != null && used >= new HashSet<>(plan.values()).size()) {
            return;
        }
        if (paper == 9) {
            plan = new TreeMap<>(part);
            return;
        }
        if (paperMinutes[paper] == 0) {
            search(paper + 1, part);
            return;
        }
        for (int s = 0; s < 6; s++) {
            if (mayPut(paper, s, part)) {
                part.put(paper, s);
                search(paper + 1, part);
                part.remove(paper);
            }
        }
    }

    private boolean mayPut(int paper, int session, Map<Integer, Integer> part) {
        boolean fits = sessionMinutes[session] >= paperMinutes[paper]
                && fixed.getOrDefault(paper, session) == session;
        for (Map.Entry<Integer, Integer> other : part.entrySet()) {
            int q = other.getKey();
            int t = other.getValue();
            fits &= t != session || clash(paper, q) == 0 && !rules.contains(List.of(1, q, paper));
            fits &= t == session || !rules.contains(List.of(0, q, paper));
            fits &= t < session || !rules.contains(List.of(2, q, paper));
            fits &= t > session || !rules.contains(List.of(2, paper, q));
        }
        return fits;
    }

    int planned(int paper) {
        exists(paper, 9);
        return plan == null ? -1 : plan.getOrDefault(paper, -1);
    }

    /** The candidate's paper in a session; -1. */
    private int writes(int candidate, int session) {
        for (int p : papersOfCandidate.get(candidate)) {
            if (planned(p) == session) {
                return p;
            }
        }
        return -1;
    }

    int strain() {
        int pairs = 0;
        for (int c = 0; c < 40; c++) {
            for (int s = 0; s < 5; s++) {
                pairs += writes(c, s) != -1 && writes(c, s + 1) != -1 ? 1 : 0;
            }
        }
        return pairs;
    }

    void room(int r, int newRows, int newColumns, boolean extra) {
        exists(r, 4);
        upTo(newRows, 6);
        upTo(newColumns, 6);
        rows[r] = newRows;
        columns[r] = newColumns;
        roomIsExtra[r] = extra;
        blocked.removeIf(seat -> seat / 100 == r);
        seats.forEach(taken -> taken.keySet().removeIf(seat -> seat / 100 == r));
        watches.clear();
    }

    private int seatAt(int room, int row, int column) {
        exists(room, 4);
        exists(row, rows[room]);
        exists(column, columns[room]);
        return 100 * room + 10 * row + column;
    }

    boolean block(int room, int row, int column, boolean is) {
        int seat = seatAt(room, row, column);
        if (seats.stream().anyMatch(taken -> taken.containsKey(seat))) {
            throw new IllegalStateException();
        }
        return put(blocked, seat, is);
    }

    int seat(int session) {
        exists(session, 6);
        if (plan == null) {
            throw new IllegalStateException();
        }
        int without = 0;
        for (int c = 0; c < 40; c++) {
            if (writes(c, session) != -1 && where(c, session) == -1) {
                int seat = seatFor(c, session);
                if (seat == -1) {
                    without++;
                } else {
                    seats.get(session).put(seat, c);
                }
            }
        }
        return without;
    }

    private int seatFor(int candidate, int session) {
        for (int seat = 0; seat < 400; seat++) {
            int room = seat / 100;
            int row = seat / 10 % 10;
            int column = seat % 10;
            boolean free = row < rows[room] && column < columns[room]
                    && roomIsExtra[room] == extras.contains(candidate)
                    && !blocked.contains(seat) && !seats.get(session).containsKey(seat);
            for (Map.Entry<Integer, Integer> taken : seats.get(session).entrySet()) {
                int other = taken.getKey();
                int away = Math.abs(other / 10 % 10 - row) + Math.abs(other % 10 - column);
                free &= other / 100 != room || away != 1
                        || writes(taken.getValue(), session) != writes(candidate, session);
            }
            if (free) {
                return seat;
            }
        }
        return -1;
    }

    int leave(int candidate, int session) {
        int seat = where(candidate, session);
        seats.get(session).remove(seat);
        return seat;
    }

    int where(int candidate, int session) {
        exists(candidate, 40);
        exists(session, 6);
        for (Map.Entry<Integer, Integer> taken : seats.get(session).entrySet()) {
            if (taken.getValue() == candidate) {
                return taken.getKey();
            }
        }
        return -1;
    }

    int who(int session, int room, int row, int column) {
        exists(session, 6);
        return seats.get(session).getOrDefault(seatAt(room, row, column), -1);
    }

    int most(int i, int sessions) {
        exists(i, 10);
        upTo(sessions, 6);
        int old = mostOf[i];
        mostOf[i] = sessions;
        return old;
    }

    boolean own(int i, int paper, boolean is) {
        exists(i, 10);
        exists(paper, 9);
        return put(owns, List.of(i, paper), is);
    }

    boolean watch(int session) {
        exists(session, 6);
        watches.removeIf(w -> w.get(0) == session);
        List<Integer> places = new ArrayList<>();
        for (int r = 0; r < 4; r++) {
            int room = r;
            long sit = seats.get(session).keySet().stream().filter(seat -> seat / 100 == room).count();
            for (int k = 0; 8 * k < sit; k++) {
                places.add(r);
            }
        }
        return fill(session, places, 0);
    }

    /** Goes through all ways in their order; the first that fills the places stays. */
    private boolean fill(int session, List<Integer> places, int next) {
        if (next == places.size()) {
            return true;
        }
        for (int i = 0; i < 10; i++) {
            if (mayWatch(i, session, places.get(next))) {
                List<Integer> watch = List.of(session, places.get(next), i);
                watches.add(watch);
                if (fill(session, places, next + 1)) {
                    return true;
                }
                watches.remove(watch);
            }
        }
        return false;
    }

    private boolean mayWatch(int i, int session, int room) {
        int sessions = 0;
        for (List<Integer> w : watches) {
            if (w.get(2) == i) {
                if (w.get(0) == session) {
                    return false;
                }
                sessions++;
            }
        }
        for (Map.Entry<Integer, Integer> taken : seats.get(session).entrySet()) {
            if (taken.getKey() / 100 == room
                    && owns.contains(List.of(i, writes(taken.getValue(), session)))) {
                return false;
            }
        }
        return sessions < mostOf[i];
    }

    int watcher(int session, int room, int k) {
        exists(session, 6);
        exists(room, 4);
        if (k < 0) {
            throw new NoSuchElementException();
        }
        List<Integer> there = new ArrayList<>();
        for (int i = 0; i < 10; i++) {
            if (watches.contains(List.of(session, room, i))) {
                there.add(i);
            }
        }
        return k < there.size() ? there.get(k) : -1;
    }

    int count(int what) {
        switch (what) {
            case 0:
                return (int) java.util.Arrays.stream(paperMinutes).filter(m -> m > 0).count();
            case 1:
                return papersOfCandidate.stream().mapToInt(Set::size).sum();
            case 2:
                return plan == null ? 0 : new HashSet<>(plan.values()).size();
            case 3:
                return seats.stream().mapToInt(Map::size).sum();
            case 4:
                return watches.size();
            default:
                throw new IllegalArgumentException();
        }
    }
}
