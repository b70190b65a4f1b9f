/** Each sentence on rooms and seats that names a boundary case. */
public final class RoomEdgesTest {
    private static final int NONE = Desks.NONE;
    private static final int LEAST = Desks.LEAST;
    private static final int GREATEST = Desks.GREATEST;

    private static final int[] NO_SESSIONS = {LEAST, -1, 6, GREATEST};
    private static final int[] NO_CANDIDATES = {LEAST, -1, 40, GREATEST};
    private static final int[] NO_ROOMS = {LEAST, -1, 4, GREATEST};
    private static final int[] NO_SIZES = {LEAST, -1, 7, GREATEST};

    private static final Checks CHECKS = new Checks();

    public static void main(String[] args) {
        newRooms();
        roomNumbers();
        roomSizes();
        wrongSizes();
        roomOfAllSizes();
        roomWithoutSitters();
        roomWithoutBlockedSeats();
        roomTakesAllWatches();
        roomKeepsThePlan();
        roomThatBecomesOneForExtraTime();
        blockNumbers();
        blockInAllCorners();
        blockTakenSeat();
        blockAllSeats();
        seatNumbers();
        seatWithoutAPlan();
        seatInAPlanOfNoPaper();
        seatInClosedSession();
        seatWithoutRooms();
        seatInAFullRoom();
        seatInRoomsWithoutSeats();
        seatEverySecond();
        seatOnEachSideOfOne();
        seatNobodyTwice();
        seatExtraTimeAlone();
        seatBesideBlockedSeats();
        leaveNumbers();
        leaveOnlyOnce();
        leaveOneSession();
        whereNumbers();
        whereOnEverySeat();
        whoNumbers();
        whoOnNoSeat();
        countSeats();
        CHECKS.finish("RoomEdgesTest");
    }

    /** The last room is of 6 by 6; nobody writes anything yet. */
    private static ExamDesk largeRoom() {
        ExamDesk d = Desks.withSessions(2, 2);
        d.room(3, 6, 6, false);
        return d;
    }

    /** These candidates, from 0 on, write paper 0 in session 0, and there are no rooms yet. */
    private static ExamDesk crowd(int candidates) {
        ExamDesk d = Desks.withSessions(1, 1);
        for (int c = 0; c < candidates; c++) {
            d.enrol(c, 0, true);
        }
        d.plan();
        return d;
    }

    /** "ROWS and COLUMNS 0 .. 6 (0 at first) of SEATS"; "nobody seated". */
    private static void newRooms() {
        ExamDesk d = new ExamDesk();
        for (int n = 0; n < 144; n++) {
            int room = n / 36;
            int row = n / 6 % 6;
            int column = n % 6;
            CHECKS.missing("at first a seat", () -> d.who(0, room, row, column));
            CHECKS.missing("at first one to block", () -> d.block(room, row, column, false));
        }
        ExamDesk other = new ExamDesk();
        for (int n = 0; n < 240; n++) {
            int c = n / 6;
            int s = n % 6;
            CHECKS.due("at first where", NONE, () -> other.where(c, s));
            CHECKS.due("at first leave", NONE, () -> other.leave(c, s));
        }
        CHECKS.due("at first seats", 0, () -> other.count(3));
    }

    /** "ROOMS are 0 .. 3", and NoSuchElementException comes first. */
    private static void roomNumbers() {
        ExamDesk d = new ExamDesk();
        for (int wrong : NO_ROOMS) {
            CHECKS.missing("room " + wrong, () -> Desks.makeRoom(d, wrong, 1, 1, false));
            for (int size : NO_SIZES) {
                CHECKS.missing("room " + wrong + ", rows " + size,
                        () -> Desks.makeRoom(d, wrong, size, 1, false));
                CHECKS.missing("room " + wrong + ", columns " + size,
                        () -> Desks.makeRoom(d, wrong, 1, size, false));
            }
        }
        for (int n = 0; n < 4; n++) {
            int r = n;
            CHECKS.missing("no seat yet", () -> d.who(0, r, 0, 0));
            CHECKS.due("room " + r, "done", () -> Desks.makeRoom(d, r, 1, 1, false));
            CHECKS.due("a seat", NONE, () -> d.who(0, r, 0, 0));
        }
    }

    /** "IllegalArgumentException: rows or columns are not 0 .. 6." */
    private static void roomSizes() {
        ExamDesk d = new ExamDesk();
        for (int size : NO_SIZES) {
            for (int other : new int[] {0, 1, 6}) {
                CHECKS.refused("rows " + size, () -> Desks.makeRoom(d, 0, size, other, false));
                CHECKS.refused("columns " + size, () -> Desks.makeRoom(d, 0, other, size, true));
            }
            for (int other : NO_SIZES) {
                CHECKS.refused("both", () -> Desks.makeRoom(d, 0, size, other, false));
            }
        }
        for (int rows : new int[] {0, 1, 5, 6}) {
            for (int columns : new int[] {0, 1, 5, 6}) {
                CHECKS.due("rows and columns", "done",
                        () -> Desks.makeRoom(d, 0, rows, columns, false));
            }
        }
    }

    private static void wrongSizes() {
        for (int size : NO_SIZES) {
            Desks.afterCall(CHECKS, "rows " + size, false,
                    d -> CHECKS.refused("rows", () -> Desks.makeRoom(d, 0, size, 3, false)));
            Desks.afterCall(CHECKS, "columns " + size, false,
                    d -> CHECKS.refused("columns", () -> Desks.makeRoom(d, 0, 2, size, false)));
        }
        Desks.afterCall(CHECKS, "room 4", false,
                d -> CHECKS.missing("room 4", () -> Desks.makeRoom(d, 4, 2, 3, false)));
    }

    /** "also, if the room has no such seat": just rows times columns of them are there. */
    private static void roomOfAllSizes() {
        for (int n = 0; n < 49; n++) {
            int rows = n / 7;
            int columns = n % 7;
            ExamDesk d = new ExamDesk();
            d.room(1, rows, columns, true);
            for (int seat = 0; seat < 64; seat++) {
                int row = seat / 8 - 1;
                int column = seat % 8 - 1;
                boolean is = row >= 0 && row < rows && column >= 0 && column < columns;
                String missing = "throws.NoSuchElementException";
                CHECKS.due("who in " + rows + " by " + columns, is ? NONE : missing,
                        () -> d.who(5, 1, row, column));
                CHECKS.due("block in " + rows + " by " + columns, is ? "true" : missing,
                        () -> d.block(1, row, column, true));
            }
        }
    }

    /** "nobody sits there": in no session, but in the other rooms. */
    private static void roomWithoutSitters() {
        ExamDesk d = Desks.withSessions(2, 2);
        d.room(0, 1, 1, false);
        d.room(3, 1, 1, false);
        for (int c = 0; c < 2; c++) {
            d.enrol(c, 0, true);
            d.enrol(c, 1, true);
        }
        d.plan();
        d.seat(0);
        d.seat(1);
        CHECKS.due("all sit", 4, () -> d.count(3));
        d.room(0, 1, 1, false);
        CHECKS.due("two sit", 2, () -> d.count(3));
        for (int n = 0; n < 2; n++) {
            int s = n;
            CHECKS.due("not here", NONE, () -> d.where(0, s));
            CHECKS.due("nobody here", NONE, () -> d.who(s, 0, 0, 0));
            CHECKS.due("but there", 300, () -> d.where(1, s));
            CHECKS.due("one is there", 1, () -> d.who(s, 3, 0, 0));
        }
        d.room(3, 0, 1, false);
        CHECKS.due("none sits", 0, () -> d.count(3));
        CHECKS.missing("no seat", () -> d.who(0, 3, 0, 0));
        d.room(3, 1, 1, false);
        CHECKS.due("nobody comes back", NONE, () -> d.who(0, 3, 0, 0));
        CHECKS.due("both can sit again", 0, () -> d.seat(0));
        CHECKS.due("the lower one in the first", 0, () -> d.where(0, 0));
    }

    /** "no seat is blocked", but in the other rooms. */
    private static void roomWithoutBlockedSeats() {
        ExamDesk d = new ExamDesk();
        for (int r = 0; r < 4; r++) {
            d.room(r, 6, 6, false);
            d.block(r, 0, 0, true);
            d.block(r, 5, 5, true);
        }
        d.room(1, 6, 6, false);
        d.room(2, 5, 5, false);
        d.room(2, 6, 6, false);
        for (int n = 0; n < 4; n++) {
            int r = n;
            boolean anew = r == 1 || r == 2;
            CHECKS.due("first seat of " + r, anew, () -> d.block(r, 0, 0, true));
            CHECKS.due("last seat of " + r, anew, () -> d.block(r, 5, 5, true));
        }
    }

    /** "All watches go": those of other rooms and sessions too, and if all is as it was. */
    private static void roomTakesAllWatches() {
        for (int n = 0; n < 4; n++) {
            int r = n;
            ExamDesk d = Desks.office();
            d.rule(Desks.BEFORE, 0, 1, true);
            d.plan();
            d.seat(2);
            d.seat(3);
            d.watch(2);
            d.watch(3);
            CHECKS.due("watches", 3, () -> d.count(4));
            d.room(r, r == 0 ? 2 : 1, r == 0 ? 3 : 2, r == 2);
            CHECKS.due("no watches", 0, () -> d.count(4));
            CHECKS.due("none in session 2", "", () -> Desks.watchersOf(d, 2));
            CHECKS.due("none in session 3", "", () -> Desks.watchersOf(d, 3));
        }
        ExamDesk ends = Desks.ends();
        ends.room(1, 0, 0, false);
        CHECKS.due("none at the ends", "0 300: , 0 300: ", () -> Desks.endsOf(ends));
    }

    private static void roomKeepsThePlan() {
        ExamDesk d = Desks.busyOffice();
        d.room(0, 0, 0, false);
        CHECKS.due("the plan stays", 2, () -> d.planned(0));
        CHECKS.due("its sessions stay", 1, () -> d.count(2));
        CHECKS.due("who sits elsewhere stays", 200, () -> d.where(13, 2));
        CHECKS.due("three without a seat", 3, () -> d.seat(2));
    }

    private static void roomThatBecomesOneForExtraTime() {
        ExamDesk d = Desks.busyOffice();
        d.room(0, 2, 3, true);
        CHECKS.due("three have no room", 3, () -> d.seat(2));
        d.room(2, 1, 2, false);
        CHECKS.due("one room for extra time, one not", 1, () -> d.seat(2));
        CHECKS.due("extra time", 0, () -> d.where(13, 2));
        CHECKS.due("no extra time", 200, () -> d.where(10, 2));
        CHECKS.due("not beside the same", NONE, () -> d.where(11, 2));
        CHECKS.due("beside another", 201, () -> d.where(12, 2));
    }

    private static void blockNumbers() {
        ExamDesk d = new ExamDesk();
        d.room(0, 2, 3, false);
        for (boolean is : new boolean[] {true, false}) {
            for (int wrong : NO_ROOMS) {
                CHECKS.missing("block in room " + wrong, () -> d.block(wrong, 0, 0, is));
            }
            for (int row : new int[] {LEAST, -1, 2, 5, 6, GREATEST}) {
                CHECKS.missing("block row " + row, () -> d.block(0, row, 0, is));
            }
            for (int column : new int[] {LEAST, -1, 3, 5, 6, GREATEST}) {
                CHECKS.missing("block column " + column, () -> d.block(0, 0, column, is));
            }
            CHECKS.missing("block in a room without seats", () -> d.block(1, 0, 0, is));
        }
        for (int n = 0; n < 6; n++) {
            int row = n / 3;
            int column = n % 3;
            CHECKS.due("not blocked", false, () -> d.block(0, row, column, false));
            CHECKS.due("block", true, () -> d.block(0, row, column, true));
            CHECKS.due("blocked", false, () -> d.block(0, row, column, true));
            CHECKS.due("no more", true, () -> d.block(0, row, column, false));
            CHECKS.due("not blocked again", false, () -> d.block(0, row, column, false));
        }
    }

    private static void blockInAllCorners() {
        ExamDesk d = new ExamDesk();
        for (int r = 0; r < 4; r++) {
            d.room(r, 6, 6, false);
        }
        for (int n = 0; n < 16; n++) {
            int room = n / 4;
            int row = 5 * (n / 2 % 2);
            int column = 5 * (n % 2);
            CHECKS.due("a corner", true, () -> d.block(room, row, column, true));
        }
        for (int n = 0; n < 144; n++) {
            int room = n / 36;
            int row = n / 6 % 6;
            int column = n % 6;
            boolean corner = row % 5 == 0 && column % 5 == 0;
            CHECKS.due("only corners", corner, () -> d.block(room, row, column, false));
        }
    }

    /** "IllegalStateException: it is taken in some session." */
    private static void blockTakenSeat() {
        for (int n = 0; n < 6; n++) {
            int s = n;
            ExamDesk d = Desks.withSessions(1, 6);
            d.fix(0, s);
            d.enrol(7, 0, true);
            d.room(2, 6, 6, false);
            d.plan();
            CHECKS.due("not taken yet", true, () -> d.block(2, 0, 0, true));
            d.seat(s);
            CHECKS.due("the next one", 201, () -> d.where(7, s));
            CHECKS.illState("taken in " + s, () -> d.block(2, 0, 1, true));
            CHECKS.illState("taken, and not blocked", () -> d.block(2, 0, 1, false));
            CHECKS.due("it is still there", 7, () -> d.who(s, 2, 0, 1));
            CHECKS.due("beside it", true, () -> d.block(2, 0, 2, true));
            CHECKS.due("behind it", true, () -> d.block(2, 1, 1, true));
            CHECKS.due("in front", true, () -> d.block(2, 0, 0, false));
            d.leave(7, s);
            CHECKS.due("not blocked by that", false, () -> d.block(2, 0, 1, false));
            CHECKS.due("free", true, () -> d.block(2, 0, 1, true));
        }
    }

    private static void blockAllSeats() {
        ExamDesk d = crowd(2);
        d.room(0, 2, 3, false);
        for (int seat = 0; seat < 6; seat++) {
            d.block(0, seat / 3, seat % 3, true);
        }
        CHECKS.due("all blocked", 2, () -> d.seat(0));
        d.block(0, 1, 2, false);
        CHECKS.due("all but the last", 1, () -> d.seat(0));
        CHECKS.due("the last", 12, () -> d.where(0, 0));
    }

    private static void seatNumbers() {
        ExamDesk d = Desks.busyOffice();
        for (int wrong : NO_SESSIONS) {
            CHECKS.missing("seat in " + wrong, () -> d.seat(wrong));
        }
        Desks.busy(CHECKS, "seat in no session", d);
        CHECKS.due("seat in the first", 0, () -> d.seat(0));
        CHECKS.due("seat in the last", 0, () -> d.seat(5));
        Desks.busy(CHECKS, "seat where nothing is planned", d);
    }

    /** "IllegalStateException: there is no plan", behind NoSuchElementException. */
    private static void seatWithoutAPlan() {
        ExamDesk d = Desks.office();
        for (int s = 0; s < 6; s++) {
            int session = s;
            CHECKS.illState("no plan for " + s, () -> d.seat(session));
        }
        for (int wrong : NO_SESSIONS) {
            CHECKS.missing("no session comes first " + wrong, () -> d.seat(wrong));
        }
        CHECKS.due("nobody sits", 0, () -> d.count(3));
        d.fix(0, 5);
        CHECKS.due("no plan to be made", NONE, d::plan);
        CHECKS.illState("none then", () -> d.seat(2));
        d.fix(0, NONE);
        CHECKS.illState("none yet", () -> d.seat(2));
        d.plan();
        CHECKS.due("a plan", 0, () -> d.seat(2));
    }

    private static void seatInAPlanOfNoPaper() {
        ExamDesk d = new ExamDesk();
        d.room(0, 1, 1, false);
        d.enrol(0, 0, true);
        d.session(0, 60);
        CHECKS.due("no paper is held", 0, d::plan);
        CHECKS.due("nobody is to be seated", 0, () -> d.seat(0));
        CHECKS.due("nobody sits", 0, () -> d.count(3));
    }

    private static void seatInClosedSession() {
        ExamDesk d = Desks.busyOffice();
        for (int s : new int[] {0, 1, 3, 4, 5}) {
            CHECKS.due("nobody in " + s, 0, () -> d.seat(s));
        }
        CHECKS.due("as many as before", 4, () -> d.count(3));
    }

    private static void seatWithoutRooms() {
        for (int candidates : new int[] {0, 1, 39, 40}) {
            ExamDesk d = crowd(candidates);
            CHECKS.due("all without a seat", candidates, () -> d.seat(0));
            CHECKS.due("again", candidates, () -> d.seat(0));
            CHECKS.due("nobody sits", 0, () -> d.count(3));
        }
    }

    /** A room that is just full, and one too many. */
    private static void seatInAFullRoom() {
        ExamDesk one = crowd(2);
        one.room(0, 1, 1, false);
        CHECKS.due("one too many", 1, () -> one.seat(0));
        one.room(1, 1, 1, false);
        CHECKS.due("just enough", 0, () -> one.seat(0));
        CHECKS.due("in the next room", 100, () -> one.where(1, 0));
        // Two papers in turn fill all seats of a room of 5 by 5.
        ExamDesk d = Desks.withSessions(2, 1);
        d.room(2, 5, 5, false);
        for (int c = 0; c < 26; c++) {
            d.enrol(c, c % 2, true);
        }
        d.plan();
        CHECKS.due("25 seats for 26", 1, () -> d.seat(0));
        CHECKS.due("the last seat", 24, () -> d.who(0, 2, 4, 4));
        CHECKS.due("the last has none", NONE, () -> d.where(25, 0));
        CHECKS.due("full", 25, () -> d.count(3));
        d.leave(0, 0);
        CHECKS.due("a seat, but among the other paper", 1, () -> d.seat(0));
        CHECKS.due("one has its seat again", 0, () -> d.who(0, 2, 0, 0));
    }

    private static void seatInRoomsWithoutSeats() {
        ExamDesk d = crowd(1);
        d.room(0, 0, 6, false);
        d.room(1, 6, 0, false);
        d.room(2, 0, 0, false);
        CHECKS.due("no seats", 1, () -> d.seat(0));
        d.room(3, 1, 1, false);
        CHECKS.due("one seat", 0, () -> d.seat(0));
        CHECKS.due("in the last room", 300, () -> d.where(0, 0));
    }

    /**
     * "next to which (left, right, in front, behind) nobody sits for the same paper": the last seat
     * of a row is not next to the first of the row behind, nor that of a room to the next room's.
     */
    private static void seatEverySecond() {
        ExamDesk d = crowd(40);
        d.room(0, 6, 6, false);
        d.room(1, 6, 6, false);
        CHECKS.due("18 in each room", 4, () -> d.seat(0));
        int next = 0;
        for (int n = 0; n < 72; n++) {
            int room = n / 36;
            int row = n / 6 % 6;
            int column = n % 6;
            int due = (row + column) % 2 == 0 ? next++ : NONE;
            CHECKS.due("seat " + n, due, () -> d.who(0, room, row, column));
        }
    }

    /** One sits on the middle seat of nine, and another who writes the same comes. */
    private static void seatOnEachSideOfOne() {
        for (int n = 0; n < 9; n++) {
            int row = n / 3;
            int column = n % 3;
            boolean next = (row + column) % 2 == 1;
            ExamDesk d = crowd(2);
            d.room(0, 3, 3, false);
            for (int seat = 0; seat < 9; seat++) {
                d.block(0, seat / 3, seat % 3, seat != 4);
            }
            CHECKS.due("the middle one", 1, () -> d.seat(0));
            if (n != 4) {
                d.block(0, row, column, false);
                CHECKS.due("seat " + n, next ? 1 : 0, () -> d.seat(0));
                CHECKS.due("who has it", next ? NONE : 1, () -> d.who(0, 0, row, column));
            }
        }
    }

    private static void seatNobodyTwice() {
        ExamDesk d = crowd(3);
        d.room(0, 1, 6, false);
        CHECKS.due("three", 0, () -> d.seat(0));
        d.leave(1, 0);
        CHECKS.due("one alone looks for a seat", 0, () -> d.seat(0));
        CHECKS.due("the first stays", 0, () -> d.where(0, 0));
        CHECKS.due("one is back", 2, () -> d.where(1, 0));
        CHECKS.due("the last stays", 4, () -> d.where(2, 0));
        d.leave(0, 0);
        d.leave(2, 0);
        d.block(0, 0, 0, true);
        CHECKS.due("the lower number first", 1, () -> d.seat(0));
        CHECKS.due("it has the seat", 4, () -> d.where(0, 0));
        CHECKS.due("the higher has none", NONE, () -> d.where(2, 0));
    }

    /** "candidates with extra time in rooms for that alone, others in others". */
    private static void seatExtraTimeAlone() {
        ExamDesk d = crowd(4);
        d.extra(0, true);
        d.extra(3, true);
        d.room(0, 6, 6, false);
        CHECKS.due("no room for extra time", 2, () -> d.seat(0));
        d.room(3, 1, 1, true);
        CHECKS.due("one seat for extra time", 1, () -> d.seat(0));
        CHECKS.due("the first", 300, () -> d.where(0, 0));
        CHECKS.due("full, though there is another room", NONE, () -> d.where(3, 0));
        d.room(0, 1, 1, false);
        CHECKS.due("one seat of each kind", 2, () -> d.seat(0));
        d.room(3, 6, 6, true);
        CHECKS.due("others do not go there", 1, () -> d.seat(0));
        CHECKS.due("extra time", 302, () -> d.where(3, 0));
        CHECKS.due("an other", NONE, () -> d.where(2, 0));
    }

    private static void seatBesideBlockedSeats() {
        ExamDesk d = crowd(2);
        d.room(0, 1, 3, false);
        d.block(0, 0, 1, true);
        CHECKS.due("a blocked seat between", 0, () -> d.seat(0));
        d.leave(0, 0);
        CHECKS.due("taken in front, blocked then", true, () -> d.block(0, 0, 0, true));
        CHECKS.due("between", true, () -> d.block(0, 0, 1, false));
        CHECKS.due("beside the same", 1, () -> d.seat(0));
        d.leave(1, 0);
        CHECKS.due("the lower one, and none beside it", 1, () -> d.seat(0));
        CHECKS.due("the middle", 1, () -> d.where(0, 0));
    }

    private static void leaveNumbers() {
        ExamDesk d = Desks.busyOffice();
        for (int wrong : NO_CANDIDATES) {
            CHECKS.missing("leave " + wrong, () -> d.leave(wrong, 2));
            CHECKS.missing("leave " + wrong + " in 6", () -> d.leave(wrong, 6));
        }
        for (int wrong : NO_SESSIONS) {
            CHECKS.missing("leave in " + wrong, () -> d.leave(10, wrong));
        }
        CHECKS.due("the first has no seat", NONE, () -> d.leave(0, 0));
        CHECKS.due("the last has no seat", NONE, () -> d.leave(39, 5));
        Desks.busy(CHECKS, "nobody leaves", d);
    }

    /** "NONE if it had none." "(Watches stay, as with seat().)" */
    private static void leaveOnlyOnce() {
        ExamDesk d = Desks.busyOffice();
        int[] seats = {0, 2, 1, 200};
        for (int n = 0; n < 4; n++) {
            int c = 10 + n;
            int left = 3 - n;
            CHECKS.due("leave " + c, seats[n], () -> d.leave(c, 2));
            CHECKS.due("gone", NONE, () -> d.leave(c, 2));
            CHECKS.due("one less", left, () -> d.count(3));
            CHECKS.due("watches stay", 2, () -> d.count(4));
        }
        CHECKS.due("watches of nobody", "0/4 2/7", () -> Desks.watchersOf(d, 2));
        CHECKS.due("all back", 0, () -> d.seat(2));
        CHECKS.due("watches still", "0/4 2/7", () -> Desks.watchersOf(d, 2));
    }

    private static void leaveOneSession() {
        ExamDesk d = largeRoom();
        d.enrol(39, 0, true);
        d.enrol(39, 1, true);
        d.plan();
        d.seat(0);
        d.seat(1);
        CHECKS.due("leave the first", 300, () -> d.leave(39, 0));
        CHECKS.due("still in the second", 300, () -> d.where(39, 1));
        CHECKS.due("its seat", 39, () -> d.who(1, 3, 0, 0));
        CHECKS.due("not in the first", NONE, () -> d.who(0, 3, 0, 0));
        CHECKS.illState("taken in some session", () -> d.block(3, 0, 0, true));
        CHECKS.due("leave the second", 300, () -> d.leave(39, 1));
        CHECKS.due("taken in none", true, () -> d.block(3, 0, 0, true));
    }

    private static void whereNumbers() {
        ExamDesk d = Desks.busyOffice();
        for (int wrong : NO_CANDIDATES) {
            CHECKS.missing("where " + wrong, () -> d.where(wrong, 2));
            CHECKS.missing("where " + wrong + " in 6", () -> d.where(wrong, 6));
        }
        for (int wrong : NO_SESSIONS) {
            CHECKS.missing("where in " + wrong, () -> d.where(10, wrong));
        }
        CHECKS.due("the first", NONE, () -> d.where(0, 0));
        CHECKS.due("the last", NONE, () -> d.where(39, 5));
        CHECKS.due("one below who sits", NONE, () -> d.where(9, 2));
        CHECKS.due("who sits", 0, () -> d.where(10, 2));
        CHECKS.due("one above who sits", NONE, () -> d.where(14, 2));
        CHECKS.due("a session below", NONE, () -> d.where(10, 1));
        CHECKS.due("a session above", NONE, () -> d.where(10, 3));
    }

    /** "100 * room + 10 * row + column", by rows, then columns. */
    private static void whereOnEverySeat() {
        for (int n = 0; n < 4; n++) {
            int r = n;
            ExamDesk d = crowd(1);
            d.room(r, 6, 6, false);
            for (int seat = 0; seat < 36; seat++) {
                int row = seat / 6;
                int column = seat % 6;
                CHECKS.due("the next seat", 0, () -> d.seat(0));
                CHECKS.due("its number", 100 * r + 10 * row + column, () -> d.where(0, 0));
                CHECKS.due("who has it", 0, () -> d.who(0, r, row, column));
                CHECKS.due("leaves it", 100 * r + 10 * row + column, () -> d.leave(0, 0));
                CHECKS.due("blocked", true, () -> d.block(r, row, column, true));
            }
            CHECKS.due("none is left", 1, () -> d.seat(0));
            CHECKS.due("no seat", NONE, () -> d.where(0, 0));
        }
    }

    private static void whoNumbers() {
        ExamDesk d = Desks.busyOffice();
        for (int wrong : NO_SESSIONS) {
            CHECKS.missing("who in session " + wrong, () -> d.who(wrong, 0, 0, 0));
        }
        for (int wrong : NO_ROOMS) {
            CHECKS.missing("who in room " + wrong, () -> d.who(2, wrong, 0, 0));
        }
        CHECKS.due("the first session", NONE, () -> d.who(0, 0, 0, 0));
        CHECKS.due("the last session", NONE, () -> d.who(5, 0, 0, 0));
        CHECKS.due("one who sits", 10, () -> d.who(2, 0, 0, 0));
    }

    /** "NoSuchElementException: also, if the room has no such seat." */
    private static void whoOnNoSeat() {
        ExamDesk d = Desks.busyOffice();
        for (int row : new int[] {LEAST, -1, 2, 5, 6, GREATEST}) {
            CHECKS.missing("who in row " + row, () -> d.who(2, 0, row, 0));
        }
        for (int column : new int[] {LEAST, -1, 3, 5, 6, GREATEST}) {
            CHECKS.missing("who in column " + column, () -> d.who(2, 0, 0, column));
        }
        CHECKS.due("the last row and column", NONE, () -> d.who(2, 0, 1, 2));
        CHECKS.due("another room's last", NONE, () -> d.who(2, 2, 0, 1));
        CHECKS.missing("another room has no such row", () -> d.who(2, 2, 1, 1));
        CHECKS.missing("another room has no such column", () -> d.who(2, 2, 0, 2));
        CHECKS.missing("a room without seats", () -> d.who(2, 1, 0, 0));
    }

    /** "3 seats taken in all sessions": from none to all candidates in all sessions. */
    private static void countSeats() {
        ExamDesk d = Desks.withSessions(6, 6);
        for (int r = 0; r < 4; r++) {
            d.room(r, 6, 6, false);
        }
        for (int c = 0; c < 40; c++) {
            for (int p = 0; p < 6; p++) {
                d.enrol(c, p, true);
            }
        }
        CHECKS.due("six sessions", 6, d::plan);
        CHECKS.due("no seats yet", 0, () -> d.count(3));
        for (int n = 0; n < 6; n++) {
            int s = n;
            CHECKS.due("all have seats", 0, () -> d.seat(s));
            CHECKS.due("forty more", 40 * (s + 1), () -> d.count(3));
        }
        CHECKS.due("one leaves", 211, () -> d.leave(39, 5));
        CHECKS.due("one less", 239, () -> d.count(3));
    }
}
