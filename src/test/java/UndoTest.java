/** Promise 27. */
public final class UndoTest {
    private static final Due DUE = new Due("UndoTest");

    public static void main(String[] args) {
        none();
        allOfIt();
        eightAtMost();
        whatIsKept();
        cellsComeBack();
        roomsComeBack();
        DUE.end();
    }

    private static void none() {
        RegionRooms x = new RegionRooms();
        DUE.is("undo() of a new one", x.undo(), -1);
        DUE.is("load() that is false", x.load(), false);
        DUE.is("undo() then", x.undo(), -1);
        DUE.is("program()", Due.program(x, "fun main n; p is pair n n; h is left p;"), 3);
        DUE.is("undo() behind program()", x.undo(), -1);
        DUE.is("steps() of an IDLE one", x.steps(3), 0);
        DUE.is("steps() that are NONE", x.steps(0), -1);
        DUE.is("run()", Due.run(x, 1), 2);
        DUE.is("undo() then", x.undo(), -1);
    }

    private static void allOfIt() {
        RegionRooms x = DUE.with("fun main n; p is pair n n; h is left p; r is sum h h;");
        DUE.is("load()", Due.load(x, 4), true);
        DUE.is("steps(1)", x.steps(1), 1);
        DUE.is("steps(9)", x.steps(9), 2);
        DUE.is("ENDED", x.now(0), 2);
        DUE.is("steps() behind the end", x.steps(9), 0);
        DUE.is("load() that is false", Due.load(x), false);
        DUE.is("undo()", x.undo(), 2);
        DUE.is("it RUNS", x.now(0), 1);
        DUE.is("STEPS", x.now(8), 1);
        DUE.is("CELLS", x.now(5), 1);
        DUE.is("ROOMS", x.now(6), 1);
        DUE.is("kind", x.kind(0, 1), 2);
        DUE.is("in", x.in(0, 1), 4);
        DUE.is("gave", x.gave(), 0);
        DUE.is("undo()", x.undo(), 1);
        DUE.is("STEPS", x.now(8), 0);
        DUE.is("CELLS", x.now(5), 0);
        DUE.is("MOST", x.now(7), 0);
        DUE.is("another way", x.steps(2), 2);
        DUE.is("undo()", x.undo(), 1);
        DUE.is("undo()", x.undo(), 0);
        DUE.is("IDLE", x.now(0), 0);
        DUE.is("FRAMES", x.now(2), 0);
        DUE.is("undo()", x.undo(), -1);
        DUE.is("a load() over another", Due.load(x, 1), true);
        DUE.is("and on", x.steps(3), 3);
        DUE.is("and over it", Due.load(x, 2), true);
        DUE.is("value", x.value(0, 0), 2);
        DUE.is("undo()", x.undo(), 2);
        DUE.is("ENDED as it had", x.now(0), 2);
        DUE.is("what it gave", x.result(), 2);
    }

    private static void eightAtMost() {
        RegionRooms x = DUE.with("fun f n; r is call f n; fun main n; r is call f n;");
        DUE.is("load()", Due.load(x, 4), true);
        for (int i = 1; i <= 20; i++) {
            DUE.is("steps(1)", x.steps(1), 1);
        }
        for (int i = 7; i >= 0; i--) {
            DUE.is("undo()", x.undo(), i);
            DUE.is("STEPS", x.now(8), 12 + i);
        }
        DUE.is("undo()", x.undo(), -1);
        DUE.is("STEPS", x.now(8), 12);
        DUE.is("steps(5)", x.steps(5), 5);
        DUE.is("undo()", x.undo(), 0);
        DUE.is("STEPS", x.now(8), 12);
    }

    /** The same CELL was laid again with other VALUES, in another ROOM. */
    private static void cellsComeBack() {
        RegionRooms x = DUE.with("fun main n; p is pair n n; h is left p; o is 1; q is pair o h; r is pair q q;");
        DUE.is("load()", Due.load(x, 4), true);
        DUE.is("steps(1)", x.steps(1), 1);
        DUE.is("REGION of CELL 0", x.cell(0, 0), 0);
        DUE.is("ROOMS", x.now(6), 3);
        DUE.is("steps(3)", x.steps(3), 3);
        DUE.is("CELL 0 is another one", x.cell(0, 0), 1);
        DUE.is("its LEFT", x.in(0, 0), 1);
        DUE.is("load()", Due.load(x, 9), true);
        DUE.is("steps(1)", x.steps(1), 1);
        DUE.is("its LEFT", x.in(0, 0), 9);
        DUE.is("undo()", x.undo(), 4);
        DUE.is("undo()", x.undo(), 3);
        DUE.is("its LEFT as it was", x.in(0, 0), 1);
        DUE.is("its RIGHT as it was", x.in(0, 1), 4);
        DUE.is("undo()", x.undo(), 2);
        DUE.is("its LEFT as it was at first", x.in(0, 0), 4);
        DUE.is("its REGION as it was at first", x.cell(0, 0), 0);
        DUE.is("ROOM 2 as it was", x.room(2), 0);
        DUE.is("value(0, 0)", x.value(0, 0), 4);
        DUE.is("kind(0, 1)", x.kind(0, 1), 2);
    }

    private static void roomsComeBack() {
        RegionRooms x = DUE.with("fun main n; a is pair n n; b is pair n n; c is left a; d is left b; e is 1;");
        DUE.is("load()", Due.load(x, 3), true);
        DUE.is("steps(2)", x.steps(2), 2);
        DUE.is("steps(1)", x.steps(1), 1);
        DUE.is("ROOM 0 is that of b", x.room(0), 1);
        DUE.is("undo()", x.undo(), 2);
        DUE.is("ROOM 0 is that of a", x.room(0), 0);
        DUE.is("ROOM 1 is that of b", x.room(1), 1);
        DUE.is("CELL 1 is in the latter", x.cell(1, 0), 1);
        DUE.is("and CELL 0 in the former", x.cell(0, 0), 0);
        RegionRooms z = DUE.with("fun main n; a is pair n n; b is pair n n; h is left a; c is pair b b; d is left c;");
        DUE.is("load()", Due.load(z, 3), true);
        DUE.is("steps(2)", z.steps(2), 2);
        DUE.is("steps(2)", z.steps(2), 2);
        DUE.is("PAIRS in CELL 0", 10 * z.cell(0, 1) + z.cell(0, 2), 22);
        DUE.is("undo()", z.undo(), 2);
        DUE.is("numbers in CELL 0", 10 * z.cell(0, 1) + z.cell(0, 2), 11);
        RegionRooms y = DUE.with("fun f n; r is call f n; fun main n; r is call f n;");
        DUE.is("load()", Due.load(y, 3), true);
        DUE.is("steps(2)", y.steps(2), 2);
        DUE.is("steps(7)", y.steps(7), 7);
        DUE.is("undo()", y.undo(), 2);
        DUE.is("FRAMES left ahead", y.now(10), 2);
    }

    private static void whatIsKept() {
        RegionRooms x = DUE.with("fun main n; r is left n;");
        DUE.is("sentence()", Due.sentence(x, "live"), 1);
        DUE.is("load()", Due.load(x, 4), true);
        DUE.is("run()", Due.run(x, 4), 3);
        DUE.is("steps(9)", x.steps(9), 1);
        DUE.is("why", x.now(1), 1);
        Due.feed(x, "abc");
        DUE.is("undo()", x.undo(), 1);
        DUE.is("why then", x.now(1), 0);
        DUE.is("RUNS then", x.now(0), 1);
        DUE.is("the tape stays", x.count(4), 3);
        DUE.is("the SENTENCE stays", x.said(-1), 1);
        DUE.is("undo()", x.undo(), 0);
        DUE.is("it is said of the MACHINE as it is", x.said(-1), 0);
        DUE.is("what run() told stays", x.ran(0), 1);
    }
}
