/** Promises 24, 25 and 26. */
public final class RunTest {
    private static final Due DUE = new Due("RunTest");

    public static void main(String[] args) {
        ran();
        pairs();
        stopped();
        ownStays();
        worstDrag();
        dragByWhatIsFreed();
        dragByFramesLeft();
        latest();
        odds();
        draws();
        DUE.end();
    }

    private static void ran(RegionRooms x, String where, int... want) {
        for (int what = 0; what < want.length; what++) {
            DUE.is("ran(" + what + ") " + where, x.ran(what), want[what]);
        }
        DUE.is("ran(8) " + where, x.ran(8), -1);
        DUE.is("ran(-1) " + where, x.ran(-1), -1);
        DUE.is("ran(MAX) " + where, x.ran(Integer.MAX_VALUE), -1);
    }

    private static void ran() {
        RegionRooms x = new RegionRooms();
        DUE.is("run() without FUNS", x.run(), -1);
        DUE.is("program()", Due.program(x, "fun make n; o is 1; m is sum n o; p is pair n n; q is pair m m; r is pick n p q; "
            + "fun main n; a is call make n; b is left a;"), 9);
        ran(x, "ahead of any", -1, -1, -1, -1, -1, -1, -1, -1);
        DUE.is("run() of none", Due.run(x), -1);
        DUE.is("run() of two", Due.run(x, 1, 2), -1);
        ran(x, "behind NONE", -1, -1, -1, -1, -1, -1, -1, -1);
        DUE.is("run() of one", Due.run(x, 0), 2);
        ran(x, "of 0", 7, 2, 0, 2, 0, 1, 1, 1);
        DUE.is("run() of 9", Due.run(x, 9), 2);
        ran(x, "of 9", 7, 2, 0, 2, 0, 1, 9, 1);
    }

    private static void pairs() {
        RegionRooms x = DUE.with("fun main n; p is pair n n; q is pair n n; r is pick n p q;");
        DUE.is("run()", Due.run(x, 1), 2);
        ran(x, "of a PAIR; the last STEP drags", 3, 2, 2, 2, 0, 2, 0, 1);
        DUE.is("the number is 0 for a PAIR, not its CELL", Due.run(x, 0), 2);
        ran(x, "of CELL 1", 3, 2, 2, 2, 0, 2, 0, 1);
    }

    private static void stopped() {
        RegionRooms x = DUE.with("fun f n; r is call f n; fun main n; r is call f n;");
        DUE.is("run()", Due.run(x, 1), 3);
        ran(x, "by 5", 5001, 0, 0, 0, 5, 0, 0, 0);
        RegionRooms y = DUE.with("fun b l n; p is pair n l; r is call b p n; fun main n; r is call b n n;");
        DUE.is("run()", Due.run(y, 1), 3);
        ran(y, "by 4", 402, 200, 200, 200, 4, 0, 0, 0);
        RegionRooms z = DUE.with("fun main n; a is left n;");
        DUE.is("run()", Due.run(z, 1), 3);
        ran(z, "by 1", 1, 0, 0, 0, 1, 0, 0, 0);
    }

    private static void ownStays() {
        RegionRooms x = DUE.with("fun main n; p is pair n n; h is left p; r is sum h h;");
        DUE.is("load()", Due.load(x, 4), true);
        DUE.is("steps(1)", x.steps(1), 1);
        DUE.is("run()", Due.run(x, 9), 2);
        DUE.is("its number", x.ran(6), 18);
        DUE.is("odds()", x.odds(20, 3), 20);
        DUE.is("the own one RUNS", x.now(0), 1);
        DUE.is("its STEPS", x.now(8), 1);
        DUE.is("its CELL", x.in(0, 0), 4);
        DUE.is("run() is none to undo", x.undo(), 1);
    }

    /** Each round leaves one more CELL behind; at the end the ROOM is freed. */
    private static void worstDrag() {
        RegionRooms x = DUE.with("fun f i n l; o is 1; j is sum i o; p is pair i o; c is less j n; r is when c f j n p else p; "
            + "fun main n; z is 0; e is 0; y is call f z n e; w is left y;");
        DUE.is("run()", Due.run(x, 10), 2);
        ran(x, "the greatest is behind the last round", 3 + 50 + 1, 10, 0, 10, 0, 1, 9, 9);
        DUE.is("load()", Due.load(x, 10), true);
        int worst = 0;
        for (int i = 0; i < 54; i++) {
            x.steps(1);
            worst = Math.max(worst, x.drag());
        }
        DUE.is("step by step", worst, 9);
        DUE.is("ENDED", x.now(0), 2);
    }

    /** o is freed with h; what it alone pointed to stays in the ROOM of c for one STEP more. */
    private static void dragByWhatIsFreed() {
        RegionRooms x = DUE.with("fun mk n c; i is pair n n; s is pick n i c; o is pair s n; "
            + "fun main n; c is pair n n; b is call mk n c; h is right b; k is left c;");
        DUE.is("run()", Due.run(x, 5), 2);
        ran(x, "of 5: it gave i", 7, 3, 0, 3, 0, 1, 5, 1);
        DUE.is("run()", Due.run(x, 0), 2);
        ran(x, "of 0: it gave c", 7, 3, 0, 3, 0, 1, 0, 1);
    }

    private static void dragByFramesLeft() {
        RegionRooms x = DUE.with("fun b l n; p is pair n n; r is call b p n; fun main n; r is call b n n;");
        DUE.is("run()", Due.run(x, 1), 3);
        ran(x, "the latest CELL alone is reached", 402, 200, 200, 200, 4, 0, 0, 199);
    }

    /** What run() told stays, whatever else comes. */
    private static void latest() {
        RegionRooms x = DUE.with("fun main n; r is sum n n;");
        DUE.is("run()", Due.run(x, 21), 2);
        DUE.is("run() of none", Due.run(x), -1);
        DUE.is("its number", x.ran(6), 42);
        DUE.is("a new PROGRAM", x.program(), 0);
        DUE.is("still its number", x.ran(6), 42);
        DUE.is("run() without FUNS", x.run(), -1);
        DUE.is("still its STEPS", x.ran(0), 1);
    }

    private static void odds() {
        RegionRooms x = new RegionRooms();
        DUE.is("odds() without FUNS", x.odds(1, 1), -1);
        DUE.is("program()", Due.program(x, "fun main; r is 1;"), 2);
        DUE.is("odds(0, 1)", x.odds(0, 1), -1);
        DUE.is("odds(-1, 1)", x.odds(-1, 1), -1);
        DUE.is("odds(21, 1)", x.odds(21, 1), -1);
        DUE.is("odds(MIN, 1)", x.odds(Integer.MIN_VALUE, 1), -1);
        DUE.is("odds(20, 1)", x.odds(20, 1), 20);
        DUE.is("odds(1, MAX)", x.odds(1, Integer.MAX_VALUE), 1);
        DUE.is("ran() is of run() alone", x.ran(0), -1);
        DUE.is("program()", Due.program(x, "fun main n; r is left n;"), 2);
        DUE.is("none ENDS", x.odds(20, 1), 0);
    }

    /** 'left' of a number, if the two that are drawn are not as told: by how many seeds they are is counted here. */
    private static void draws() {
        RegionRooms x = DUE.with("fun bad a; l is left a; r is 0; fun main a b; c is less a b; z is 0; q is z; "
            + "r is when c bad q else a;");
        int[] seeds = {0, 1, 77, -5, Integer.MAX_VALUE - 3, Integer.MIN_VALUE};
        for (int seed : seeds) {
            int want = 0;
            for (int i = 0; i < 20; i++) {
                int one = next(seed + i);
                int two = next(one);
                if ((one >>> 8) % 10 >= (two >>> 8) % 10) {
                    want++;
                }
            }
            DUE.is("odds(20, " + seed + ")", x.odds(20, seed), want);
        }
        // by hand: seed 1 draws 4 and 2, seed 2 draws 1 and 7, seed 3 draws 7 and 1
        DUE.is("odds(1, 1)", x.odds(1, 1), 1);
        DUE.is("odds(1, 2)", x.odds(1, 2), 0);
        DUE.is("odds(1, 3)", x.odds(1, 3), 1);
        DUE.is("odds(3, 1)", x.odds(3, 1), 2);
    }

    private static int next(int x) {
        return x * 1103515245 + 12345;
    }
}
