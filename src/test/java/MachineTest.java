/** Promises 8 (ROOMS and CELLS now) and 10 to 20. */
public final class MachineTest {
    private static final Due DUE = new Due("MachineTest");

    public static void main(String[] args) {
        loading();
        stepCounts();
        everyExpr();
        wraps();
        framesLeft();
        roomsOfFrames();
        freedWithinOneStep();
        freedAtCallsEnd();
        leastFreeCell();
        latestRoomGetsTheCell();
        outerStays();
        framesAreNew();
        allFramesAtOnce();
        manyRooms();
        firstVarIsFreed();
        stopOne();
        stopTwo();
        stopThree();
        notThreeIfLeft();
        stopFour();
        stopFive();
        leastReason();
        roomsOfAStopStay();
        whenWithoutCall();
        wrongOnes();
        DUE.end();
    }

    private static void now(RegionRooms x, String where, int... want) {
        for (int what = 0; what < want.length; what++) {
            DUE.is("now(" + what + ") " + where, x.now(what), want[what]);
        }
    }

    private static void vars(RegionRooms x, int k, String where, int... kinds) {
        for (int v = 0; v < kinds.length; v++) {
            DUE.is("kind(" + k + ", " + v + ") " + where, x.kind(k, v), kinds[v]);
        }
        DUE.is("kind(" + k + ", one more) " + where, x.kind(k, kinds.length), -1);
    }

    private static void loading() {
        RegionRooms x = new RegionRooms();
        DUE.is("load() without FUNS", x.load(), false);
        DUE.is("program()", Due.program(x, "fun main a b; l is left a; r is pair l b;"), 3);
        DUE.is("load() of none", Due.load(x), false);
        DUE.is("load() of one", Due.load(x, 1), false);
        DUE.is("load() of three", Due.load(x, 1, 2, 3), false);
        now(x, "still IDLE", 0, 0, 0, -1, -1, 0, 0, 0, 0, 0, 0, -1);
        DUE.is("load() of two", Due.load(x, 4, 200), true);
        now(x, "LOADED", 1, 0, 1, 0, 0, 0, 2, 0, 0, 0, 0, -1);
        DUE.is("ROOM 0", x.room(0), 0);
        DUE.is("ROOM 1", x.room(1), 1);
        DUE.is("ROOM 2", x.room(2), -1);
        vars(x, 0, "LOADED", 1, 1, 0, 0);
        DUE.is("value(0, 1)", x.value(0, 1), 200);
        DUE.is("steps(1)", x.steps(1), 1);
        now(x, "STOPPED", 3, 1, 1, 0, 0, 0, 2, 0, 1, 0, 0);
        DUE.is("load() of three", Due.load(x, 1, 2, 3), false);
        now(x, "it stays", 3, 1, 1, 0, 0, 0, 2, 0, 1, 0, 0);
        DUE.is("load() again", Due.load(x, 0, 0), true);
        now(x, "LOADED again", 1, 0, 1, 0, 0, 0, 2, 0, 0, 0, 0);
    }

    private static void stepCounts() {
        RegionRooms x = DUE.with("fun f n; r is call f n; fun main n; r is call f n;");
        DUE.is("steps(1) IDLE", x.steps(1), 0);
        DUE.is("load()", Due.load(x, 1), true);
        DUE.is("steps(0)", x.steps(0), -1);
        DUE.is("steps(-1)", x.steps(-1), -1);
        DUE.is("steps(501)", x.steps(501), -1);
        DUE.is("steps(MAX)", x.steps(Integer.MAX_VALUE), -1);
        DUE.is("steps(MIN)", x.steps(Integer.MIN_VALUE), -1);
        DUE.is("none was made", x.now(8), 0);
        DUE.is("steps(500)", x.steps(500), 500);
        DUE.is("STEPS", x.now(8), 500);
        DUE.is("FRAMES left ahead", x.now(10), 500);
        DUE.is("FRAMES", x.now(2), 1);
    }

    private static void everyExpr() {
        RegionRooms x = DUE.with("fun two a; o is 2; r is sum a o; fun main a b; c is 7; d is a; p is pair a b; "
            + "l is left p; r is right p; s is sum l r; t is less l r; u is less r l; v is less l l; "
            + "w is pick t a b; y is pick u a b; z is call two y; q is when t two z else a; "
            + "g is when u two z else a; h is pair p g;");
        DUE.is("load()", Due.load(x, 5, 9), true);
        DUE.is("steps", x.steps(500), 19);
        DUE.is("ENDED", x.now(0), 2);
        DUE.is("gave()", x.gave(), 2);
        DUE.is("result()", x.result(), 1);
        DUE.is("cell(1, 0)", x.cell(1, 0), x.points(1, 16));
        DUE.is("cell(1, 1)", x.cell(1, 1), 2);
        DUE.is("cell(1, 2)", x.cell(1, 2), 1);
        DUE.is("in(1, 0)", x.in(1, 0), 0);
        DUE.is("in(1, 1)", x.in(1, 1), 5);
        DUE.is("cell(0, 0)", x.cell(0, 0), x.points(1, 4));
        DUE.is("in(0, 0)", x.in(0, 0), 5);
        DUE.is("in(0, 1)", x.in(0, 1), 9);
        DUE.is("undo()", x.undo(), 1);
        DUE.is("all but the last", x.steps(18), 18);
        int[] want = {5, 9, 7, 5, 0, 5, 9, 14, 1, 0, 0, 5, 9, 11, 13, 5};
        for (int v = 0; v < want.length; v++) {
            DUE.is("value(0, " + v + ")", x.value(0, v), want[v]);
            DUE.is("kind(0, " + v + ")", x.kind(0, v), v == 4 ? 2 : 1);
        }
        DUE.is("kind of the last", x.kind(0, 16), 0);
        DUE.noSuch("value of the last", () -> x.value(0, 16));
    }

    /** 999 doubled 22 times is beyond an int. */
    private static void wraps() {
        StringBuilder text = new StringBuilder("fun main; a is 999;");
        int want = 999;
        for (int i = 1; i < 24; i++) {
            char from = (char) ('a' + i - 1);
            char x = (char) ('a' + i);
            text.append(x).append(" is sum ").append(from).append(' ').append(from).append(';');
            want += want;
        }
        RegionRooms x = DUE.with(text.toString());
        DUE.is("load() without PARAMETERS", x.load(), true);
        DUE.is("steps", x.steps(30), 24);
        DUE.is("result()", x.result(), want);
        DUE.is("it is below 0", want < 0, true);
        DUE.is("gave()", x.gave(), 1);
    }

    /** A FRAME is away ahead of the last call; the REGION that it OWNS was freed ahead. */
    private static void framesLeft() {
        RegionRooms x = DUE.with("fun loop i n a; one is 1; j is sum i one; p is pair i a; h is left p; c is less j n; "
            + "r is when c loop j n h else h; fun main n; z is 0; x is call loop z n z;");
        DUE.is("loop leaves", x.fun(0, 5), 1);
        DUE.is("main leaves", x.fun(1, 5), 1);
        DUE.is("span 0", x.span(0, 0, 0), 2);
        DUE.is("span 1", x.span(0, 0, 1), 3);
        DUE.is("load()", Due.load(x, 3), true);
        DUE.is("steps(2)", x.steps(2), 2);
        now(x, "main is left", 1, 0, 1, 0, 0, 0, 0, 0, 2, 0, 1);
        vars(x, 0, "main is left", 1, 1, 1, 0, 0, 0, 0, 0, 0);
        DUE.is("steps(3)", x.steps(3), 3);
        now(x, "behind 'pair'", 1, 0, 1, 0, 3, 1, 1, 1, 5, 1, 1);
        vars(x, 0, "behind 'pair'", 1, 1, 1, 1, 1, 2, 0, 0, 0);
        DUE.is("region(0, 5)", x.region(0, 5), 1);
        DUE.is("region(0, 6)", x.region(0, 6), 1);
        DUE.is("steps(1)", x.steps(1), 1);
        now(x, "behind 'left'", 1, 0, 1, 0, 4, 0, 0, 1, 6, 1, 1);
        vars(x, 0, "behind 'left'", 1, 1, 1, 1, 1, 0, 1, 0, 0);
        DUE.noSuch("value of what was freed", () -> x.value(0, 5));
        DUE.is("cell(0, 0) is away", x.cell(0, 0), -1);
        DUE.noSuch("in(0, 0) is away", () -> x.in(0, 0));
        DUE.is("steps(2)", x.steps(2), 2);
        now(x, "left once more", 1, 0, 1, 0, 0, 0, 0, 1, 8, 1, 2);
        vars(x, 0, "left once more", 1, 1, 1, 0, 0, 0, 0, 0, 0);
        DUE.is("value(0, 0)", x.value(0, 0), 1);
        DUE.is("steps(500)", x.steps(500), 12);
        now(x, "ENDED", 2, 0, 0, -1, -1, 0, 0, 1, 20, 3, 3);
        DUE.is("result()", x.result(), 2);
    }

    /** Each FRAME of one FUN has a ROOM of its own; they are freed the latest first. */
    private static void roomsOfFrames() {
        RegionRooms x = DUE.with("fun f i n; o is 1; j is sum i o; p is pair i i; c is less j n; "
            + "r is when c f j n else j; q is left p; s is sum r q; fun main n; z is 0; r is call f z n;");
        DUE.is("load()", Due.load(x, 3), true);
        DUE.is("steps(16)", x.steps(16), 16);
        now(x, "three deep", 1, 0, 3, 0, 4, 3, 3, 3, 16, 3, 1);
        for (int k = 0; k < 3; k++) {
            DUE.is("room(" + k + ")", x.room(k), 0);
            DUE.is("roomful(" + k + ")", x.roomful(k), 1);
            DUE.is("value(" + k + ", 4)", x.value(k, 4), k);
            DUE.is("value(" + k + ", 0)", x.value(k, 0), k);
            DUE.is("in(" + k + ", 1)", x.in(k, 1), k);
        }
        DUE.is("kind of x of the call", x.kind(0, 6), 0);
        DUE.is("region(0, 5)", x.region(0, 5), 3);
        DUE.is("region(0, 6)", x.region(0, 6), 3);
        DUE.is("steps(2)", x.steps(2), 2);
        now(x, "the latest is freed", 1, 0, 3, 0, 6, 2, 2, 3, 18, 3, 1);
        DUE.is("cell(2, 0)", x.cell(2, 0), -1);
        DUE.is("cell(1, 0)", x.cell(1, 0), 0);
        DUE.is("steps(1)", x.steps(1), 1);
        now(x, "one is away", 1, 0, 2, 0, 5, 2, 2, 3, 19, 3, 1);
        DUE.is("what it gave", x.value(1, 6), 5);
        DUE.is("steps(500)", x.steps(500), 4);
        DUE.is("result()", x.result(), 6);
        now(x, "ENDED", 2, 0, 0, -1, -1, 0, 0, 3, 23, 3, 1);
    }

    private static void freedWithinOneStep() {
        RegionRooms x = DUE.with("fun main n; a is pair n n; b is 1;");
        DUE.is("load()", Due.load(x, 3), true);
        DUE.is("steps(1)", x.steps(1), 1);
        now(x, "made, filled and freed", 1, 0, 1, 0, 1, 0, 0, 1, 1, 1, 0);
        vars(x, 0, "x itself is freed", 1, 0, 0);
    }

    /** The ROOMS of the LINE that called are freed when x has its VALUE, in the STEP that gave it. */
    private static void freedAtCallsEnd() {
        RegionRooms x = DUE.with("fun h l; a is left l; fun g n; p is pair n n; r is call h p; "
            + "fun main n; r is call g n; s is r;");
        DUE.is("g does not leave", x.fun(1, 5), 0);
        DUE.is("load()", Due.load(x, 8), true);
        DUE.is("steps(3)", x.steps(3), 3);
        now(x, "in h", 1, 0, 3, 0, 0, 1, 1, 1, 3, 1, 0);
        DUE.is("steps(1)", x.steps(1), 1);
        now(x, "two FRAMES are away at once", 1, 0, 1, 2, 1, 0, 0, 1, 4, 1, 0);
        DUE.is("given further", x.value(0, 1), 8);
        DUE.is("steps(1)", x.steps(1), 1);
        DUE.is("result()", x.result(), 8);
    }

    private static void leastFreeCell() {
        RegionRooms x = DUE.with("fun main n; a is pair n n; b is pair n n; c is left a; d is pair n n; e is pair n n; "
            + "g is left b; h is left d; i is left e;");
        DUE.is("REGIONS", x.count(2), 4);
        DUE.is("load()", Due.load(x, 3), true);
        DUE.is("steps(3)", x.steps(3), 3);
        DUE.is("CELL 0 is away", x.cell(0, 0), -1);
        DUE.is("CELL 1 is there", x.cell(1, 0), 1);
        DUE.is("ROOM 0 is that of b", x.room(0), 1);
        DUE.is("steps(2)", x.steps(2), 2);
        DUE.is("d lies in CELL 0", x.value(0, 4), 0);
        DUE.is("e lies in CELL 2", x.value(0, 5), 2);
        DUE.is("cell(0, 0)", x.cell(0, 0), 2);
        DUE.is("cell(2, 0)", x.cell(2, 0), 3);
        for (int k = 0; k < 3; k++) {
            DUE.is("room(" + k + ")", x.room(k), k + 1);
            DUE.is("roomful(" + k + ")", x.roomful(k), 1);
        }
        DUE.is("steps(1)", x.steps(1), 1);
        DUE.is("ROOMS as they were made", x.room(0), 2);
        DUE.is("and then", x.room(1), 3);
        DUE.is("MOST", x.now(7), 3);
        DUE.is("CELLS laid", x.now(9), 4);
    }

    private static void latestRoomGetsTheCell() {
        RegionRooms x = DUE.with("fun put l n; p is pair n l; fun f i n; o is 1; j is sum i o; z is 0; l is call put z i; "
            + "c is less j n; r is when c f j n else j; m is call put l i; s is 5; fun main n; z is 0; r is call f z n;");
        DUE.is("load()", Due.load(x, 2), true);
        DUE.is("steps(14)", x.steps(14), 14);
        DUE.is("two FRAMES of f", x.now(2), 2);
        DUE.is("two ROOMS", x.now(6), 2);
        DUE.is("one each: 0", x.roomful(0), 1);
        DUE.is("one each: 1", x.roomful(1), 1);
        DUE.is("steps(3)", x.steps(3), 3);
        DUE.is("in 'put', of the second FRAME", x.now(2), 3);
        DUE.is("the second 'put' is still to come", x.roomful(1), 1);
        DUE.is("steps(1)", x.steps(1), 1);
        DUE.is("ROOMS then: its SPAN ended", x.now(6), 1);
        DUE.is("CELLS then", x.now(5), 1);
    }

    private static void outerStays() {
        RegionRooms x = DUE.with("fun main n; a is pair n n; b is pair a n;");
        DUE.is("load()", Due.load(x, 3), true);
        DUE.is("ROOMS when LOADED", x.now(6), 2);
        DUE.is("steps(500)", x.steps(500), 2);
        now(x, "ENDED", 2, 0, 0, -1, -1, 2, 2, 2, 2, 2, 0);
        DUE.is("gave()", x.gave(), 2);
        DUE.is("result()", x.result(), 1);
        DUE.is("roomful(0)", x.roomful(0), 1);
        DUE.is("kind(0, 0) without FRAMES", x.kind(0, 0), -1);
        DUE.is("load() again", Due.load(x, 3), true);
        now(x, "all is away", 1, 0, 1, 0, 0, 0, 2, 0, 0, 0, 0);
        DUE.is("gave() then", x.gave(), 0);
        DUE.noSuch("result() then", x::result);
    }

    /** A FRAME has no VALUES of one that was there ahead of it. */
    private static void framesAreNew() {
        RegionRooms x = DUE.with("fun f a; b is 1; c is sum a b; fun main n; p is call f n; q is call f p; r is q;");
        DUE.is("load()", Due.load(x, 8), true);
        DUE.is("steps(2)", x.steps(2), 2);
        vars(x, 1, "of the first call", 1, 1, 0);
        DUE.is("steps(2)", x.steps(2), 2);
        vars(x, 1, "of the second call", 1, 0, 0);
        DUE.is("its PARAMETER", x.value(1, 0), 9);
        DUE.is("steps(9)", x.steps(9), 3);
        DUE.is("result()", x.result(), 10);
        DUE.is("load()", Due.load(x, 1), true);
        vars(x, 0, "LOADED again", 1, 0, 0, 0);
        DUE.is("FRAMES left ahead", x.now(10), 0);
    }

    /** c, e and w are the same, so that the SPAN of w ends with the last LINE, and no FRAME is LEFT. */
    private static void allFramesAtOnce() {
        RegionRooms x = DUE.with("fun f i n; o is 1; j is sum i o; c is less j n; w is pair o o; e is pick o c w; "
            + "r is when e f j n else j;");
        DUE.is("no FRAME is LEFT", x.fun(0, 5), 0);
        DUE.is("load()", Due.load(x, 0, 12), true);
        DUE.is("steps(71)", x.steps(71), 71);
        now(x, "12 FRAMES", 1, 0, 12, 0, 5, 12, 12, 12, 71, 12, 0);
        DUE.is("steps(1)", x.steps(1), 1);
        now(x, "all are away", 2, 0, 0, -1, -1, 0, 0, 12, 72, 12, 0);
        DUE.is("result()", x.result(), 12);
    }

    /** Twelve FRAMES with sixteen ROOMS each, which go away FRAME by FRAME. */
    private static void manyRooms() {
        StringBuilder text = new StringBuilder("fun f n; pa is pair n n;");
        for (char c = 'b'; c <= 'p'; c++) {
            text.append('p').append(c).append(" is pair n p").append((char) (c - 1)).append(';');
        }
        text.append("one is 1; k is sum n one; lim is 12; c is less k lim; r is when c f k else n; z is left pp;");
        RegionRooms x = DUE.with(text + "fun main; z is 0; r is call f z;");
        DUE.is("load()", x.load(), true);
        DUE.is("steps(254)", x.steps(254), 254);
        now(x, "at the deepest", 1, 0, 12, 0, 21, 192, 192, 192, 254, 192, 1);
        for (int k = 0; k < 192; k++) {
            DUE.is("room(" + k + ")", x.room(k), k % 16);
            DUE.is("roomful(" + k + ")", x.roomful(k), 1);
            DUE.is("cell(" + k + ", 0)", x.cell(k, 0), k % 16);
        }
        for (int left = 11; left >= 1; left--) {
            DUE.is("steps(1)", x.steps(1), 1);
            DUE.is("FRAMES", x.now(2), left);
            DUE.is("CELLS", x.now(5), 16 * left);
            DUE.is("ROOMS", x.now(6), 16 * left);
            DUE.is("the latest ROOM", x.room(16 * left - 1), 15);
            DUE.is("none behind it", x.room(16 * left), -1);
            DUE.is("the last CELL", x.in(16 * left - 1, 0), left - 1);
        }
        DUE.is("steps(500)", x.steps(500), 1);
        now(x, "at the end", 2, 0, 0, -1, -1, 0, 0, 192, 266, 192, 1);
        DUE.is("result()", x.result(), 0);
    }

    private static void firstVarIsFreed() {
        RegionRooms x = DUE.with("fun main; a is 0; b is 1; c is pair b b; d is pick b a c; e is b; g is 2;");
        DUE.is("load()", x.load(), true);
        DUE.is("steps(3)", x.steps(3), 3);
        vars(x, 0, "ahead", 1, 1, 2, 0, 0, 0);
        DUE.is("steps(1)", x.steps(1), 1);
        vars(x, 0, "a, a number, is freed with them", 0, 1, 0, 0, 0, 0);
    }

    private static void stops(String text, int why, int line, int number) {
        RegionRooms x = DUE.with(text);
        DUE.is("load() of " + text, Due.load(x, number), true);
        x.steps(500);
        DUE.is("STOPPED: " + text, x.now(0), 3);
        DUE.is("why: " + text, x.now(1), why);
        DUE.is("its LINE: " + text, x.now(4), line);
        DUE.is("its x has no VALUE: " + text, x.kind(0, line + 1), 0);
        DUE.is("STEPS: " + text, x.now(8), line + 1);
        DUE.is("gave(): " + text, x.gave(), 0);
        DUE.is("no more STEPS: " + text, x.steps(5), 0);
        DUE.noSuch("result(): " + text, x::result);
    }

    private static void stopOne() {
        stops("fun main n; a is left n; b is 1;", 1, 0, 0);
        stops("fun main n; a is right n; b is 1;", 1, 0, 0);
        stops("fun main n; p is pair n n; a is left p; b is left a;", 1, 2, 7);
    }

    private static void stopTwo() {
        stops("fun main n; p is pair n n; a is sum p n;", 2, 1, 1);
        stops("fun main n; p is pair n n; a is sum n p;", 2, 1, 1);
        stops("fun main n; p is pair n n; a is less p n;", 2, 1, 1);
        stops("fun main n; p is pair n n; a is less n p;", 2, 1, 1);
        stops("fun main n; p is pair n n; a is pick p n n;", 2, 1, 1);
        stops("fun f n; r is n; fun main n; p is pair n n; a is when p f n else n;", 2, 1, 1);
    }

    private static void stopThree() {
        RegionRooms x = DUE.with("fun f n; m is call f n; o is 1; fun main n; r is call f n;");
        DUE.is("load()", Due.load(x, 1), true);
        DUE.is("steps(12)", x.steps(12), 12);
        now(x, "12 FRAMES", 1, 0, 12, 0, 0, 0, 0, 0, 12, 0, 1);
        DUE.is("steps(500)", x.steps(500), 1);
        now(x, "STOPPED", 3, 3, 12, 0, 0, 0, 0, 0, 13, 0, 1);
        DUE.is("kind(11, 0)", x.kind(11, 0), 1);
        DUE.is("kind(12, 0)", x.kind(12, 0), -1);
        RegionRooms y = DUE.with("fun f n; m is when n f n else n; o is 1; fun main n; r is call f n; s is 1;");
        DUE.is("load()", Due.load(y, 1), true);
        DUE.is("steps(500)", y.steps(500), 12);
        now(y, "STOPPED by 'when'", 3, 3, 12, 0, 0, 0, 0, 0, 12, 0, 0);
    }

    /** With 12 FRAMES a last call goes on, for its FRAME is LEFT; and a 'when' without a call. */
    private static void notThreeIfLeft() {
        RegionRooms x = DUE.with("fun f i n; o is 1; j is sum i o; c is less j n; "
            + "k is when c f j n else i; l is sum k k; fun main n; z is 0; a is call f z n; b is a;");
        DUE.is("11 of f: with main 12", Due.run(x, 11), 2);
        DUE.is("12 of f: one too many", Due.run(x, 12), 3);
        DUE.is("why", x.ran(4), 3);
        RegionRooms y = DUE.with("fun t i; r is i; fun f i n; o is 1; j is sum i o; c is less j n; "
            + "k is when c f j n else i; fun d i n; o is 1; j is sum i o; c is less j n; k is when c d j n else i; "
            + "l is call t k; fun main n; z is 0; a is call d z n; b is call f z n;");
        DUE.is("d: 11 FRAMES beside main; t comes for one that is LEFT", Due.run(y, 11), 2);
        DUE.is("its number", y.ran(6), 10);
        DUE.is("d: one too many", Due.run(y, 12), 3);
        RegionRooms z = DUE.with("fun t i; r is i; fun d i n; o is 1; j is sum i o; c is less j n; k is when c d j n else i; "
            + "l is call t k; m is l; fun main n; z is 0; a is call d z n;");
        DUE.is("main is LEFT: 12 of d, but t is one too many", Due.run(z, 12), 3);
        DUE.is("11 of d and t", Due.run(z, 11), 2);
    }

    private static void stopFour() {
        RegionRooms x = DUE.with("fun b l n; p is pair n l; r is call b p n; fun main n; r is call b n n;");
        DUE.is("load()", Due.load(x, 1), true);
        DUE.is("steps(401)", x.steps(401), 401);
        now(x, "200 CELLS", 1, 0, 1, 0, 0, 200, 1, 200, 401, 200, 201);
        DUE.is("cell(199, 0)", x.cell(199, 0), 0);
        DUE.is("cell(200, 0)", x.cell(200, 0), -1);
        DUE.is("steps(1)", x.steps(1), 1);
        now(x, "STOPPED", 3, 4, 1, 0, 0, 200, 1, 200, 402, 200, 201);
        DUE.is("kind(0, 2)", x.kind(0, 2), 0);
    }

    private static void stopFive() {
        RegionRooms x = DUE.with("fun f n; r is call f n; fun main n; r is call f n;");
        DUE.is("load()", Due.load(x, 1), true);
        for (int i = 0; i < 10; i++) {
            DUE.is("steps(500)", x.steps(500), 500);
        }
        now(x, "behind 5000", 1, 0, 1, 0, 0, 0, 0, 0, 5000, 0, 5000);
        DUE.is("steps(500)", x.steps(500), 1);
        now(x, "STOPPED", 3, 5, 1, 0, 0, 0, 0, 0, 5001, 0, 5000);
    }

    /** 5000 STEPS ahead of the last LINE: f counts to 1248 by four each. */
    private static void leastReason() {
        String text = "fun f i n; o is 1; j is sum i o; c is less j n; x is when c f j n else i; "
            + "fun main; z is 0; m is 999; k is 249; n is sum m k; x is call f z n; ";
        String[] last = {"y is 7;", "y is left z;", "y is sum p z;", "y is pair z z;", "y is call f z z;", "y is x;"};
        int[] why = {5, 1, 2, 5, 5, 5};
        for (int i = 0; i < last.length; i++) {
            RegionRooms x = DUE.with(text + "p is pair z z; q is p; s is 0; " + last[i]);
            DUE.is("run() " + last[i], x.run(), 3);
            DUE.is("STEPS " + last[i], x.ran(0), 5001);
            DUE.is("why " + last[i], x.ran(4), why[i]);
            RegionRooms y = DUE.with(text + "p is pair z z; s is 0; " + last[i]);
            DUE.is("run() with 4999 ahead " + last[i], y.run(), last[i].contains("left") || last[i].contains("sum")
                || last[i].contains("call") ? 3 : 2);
        }
    }

    private static void roomsOfAStopStay() {
        RegionRooms z = DUE.with("fun main n; o is 1; b is sum o o; p is pair n n; a is pair p p; c is sum a o;");
        DUE.is("load()", Due.load(z, 1), true);
        DUE.is("steps(500)", z.steps(500), 5);
        now(z, "STOPPED", 3, 2, 1, 0, 4, 2, 2, 2, 5, 2, 0);
        // n points to a REGION, for a does: its ROOM is there from the start
        RegionRooms w = DUE.with("fun g n; p is pair n n; fun main n; q is call g n; a is left q; b is left a;");
        DUE.is("load()", Due.load(w, 1), true);
        DUE.is("steps(500)", w.steps(500), 4);
        now(w, "STOPPED", 3, 1, 1, 1, 2, 0, 1, 1, 4, 1, 0);
        DUE.is("the ROOM of what n points to", w.room(0), w.points(1, 0));
        // the ROOM is made in the STEP that stops: the 'call' that would fill it is one too deep
        RegionRooms u = DUE.with("fun t i; r is pair i i; fun d i n; o is 1; j is sum i o; c is less j n; "
            + "k is when c d j n else i; l is call t k; m is 1; s is sum k m; fun main n; z is 0; r is call d z n; s is r;");
        DUE.is("load()", Due.load(u, 11), true);
        DUE.is("steps(500)", u.steps(500), 2 + 11 * 4 + 1);
        now(u, "STOPPED", 3, 3, 12, 1, 4, 0, 1, 0, 47, 0, 0);
        DUE.is("the ROOM that it made stays", u.room(0), 0);
        DUE.is("it is empty", u.roomful(0), 0);
    }

    private static void whenWithoutCall() {
        RegionRooms x = DUE.with("fun f a; r is 7; fun main c d; r is when c f c else d;");
        DUE.is("load()", Due.load(x, 0, 5), true);
        DUE.is("steps(9)", x.steps(9), 1);
        DUE.is("result()", x.result(), 5);
        DUE.is("none LEFT", x.now(10), 0);
        DUE.is("load()", Due.load(x, 3, 5), true);
        DUE.is("steps(9)", x.steps(9), 2);
        DUE.is("result()", x.result(), 7);
        DUE.is("one LEFT", x.now(10), 1);
        DUE.is("load()", Due.load(x, 3, 5), true);
        DUE.is("none LEFT since then", x.now(10), 0);
    }

    private static void wrongOnes() {
        RegionRooms x = DUE.with("fun main n; a is pair n n; b is pair a n; c is 1; d is pair b c;");
        DUE.is("load()", Due.load(x, 3), true);
        DUE.is("steps(2)", x.steps(2), 2);
        int[] wild = {-1, -2, 5, 24, 27, 200, 201, 12, Integer.MAX_VALUE, Integer.MIN_VALUE};
        for (int w : wild) {
            DUE.is("kind(" + w + ", 0)", x.kind(w, 0), -1);
            DUE.is("kind(0, " + w + ")", x.kind(0, w), -1);
            DUE.noSuch("value(" + w + ", 0)", () -> x.value(w, 0));
            DUE.noSuch("value(0, " + w + ")", () -> x.value(0, w));
            DUE.is("cell(" + w + ", 0)", x.cell(w, 0), -1);
            DUE.is("cell(0, " + w + ")", x.cell(0, w), -1);
            DUE.noSuch("in(" + w + ", 0)", () -> x.in(w, 0));
            DUE.noSuch("in(0, " + w + ")", () -> x.in(0, w));
            DUE.is("room(" + w + ")", x.room(w), -1);
            DUE.is("roomful(" + w + ")", x.roomful(w), -1);
        }
        DUE.is("cell(0, 3)", x.cell(0, 3), -1);
        DUE.is("cell(2, 0) is not there yet", x.cell(2, 0), -1);
        DUE.noSuch("in(0, 2)", () -> x.in(0, 2));
        DUE.noSuch("value without a VALUE", () -> x.value(0, 3));
        for (int w : new int[] {-1, 11, 99, Integer.MAX_VALUE, Integer.MIN_VALUE}) {
            DUE.is("now(" + w + ")", x.now(w), -1);
        }
        DUE.is("gave() while it RUNS", x.gave(), 0);
        DUE.noSuch("result() while it RUNS", x::result);
        DUE.is("a call that throws changes nothing", x.now(8), 2);
    }
}
