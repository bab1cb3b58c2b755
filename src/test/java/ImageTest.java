/** Promises 30 and 31. */
public final class ImageTest {
    private static final Due DUE = new Due("ImageTest");

    public static void main(String[] args) {
        wrongOnes();
        allComesBack();
        emptyOne();
        twoPlaces();
        otherThingsStay();
        cellsComeBack();
        DUE.end();
    }

    private static void wrongOnes() {
        RegionRooms x = new RegionRooms();
        for (int k : new int[] {-1, 2, 99, Integer.MAX_VALUE, Integer.MIN_VALUE}) {
            DUE.is("image(" + k + ")", x.image(k), false);
            DUE.is("restore(" + k + ")", x.restore(k), false);
        }
        DUE.is("restore(0) of nothing", x.restore(0), false);
        DUE.is("image(1)", x.image(1), true);
        DUE.is("restore(0) of nothing still", x.restore(0), false);
        DUE.is("restore(1)", x.restore(1), true);
    }

    private static void allComesBack() {
        RegionRooms x = DUE.with("fun f a; b is left a; c is 1; fun main n; o is 2; p is pair n o; q is call f p; r is q;");
        DUE.is("sentence()", Due.sentence(x, "live"), 1);
        DUE.is("load()", Due.load(x, 6), true);
        DUE.is("steps(4)", x.steps(4), 4);
        DUE.is("image(0)", x.image(0), true);
        DUE.is("image() undoes nothing", x.undo(), 1);
        DUE.is("STEPS", x.now(8), 0);
        DUE.is("another PROGRAM", Due.program(x, "fun g; a is 1;"), 2);
        DUE.is("load()", x.load(), true);
        DUE.is("restore(0)", x.restore(0), true);
        DUE.is("FUNS", x.count(0), 2);
        DUE.is("LINES", x.count(1), 6);
        DUE.is("REGIONS", x.count(2), 1);
        DUE.is("FINITE", x.count(3), 1);
        int[] now = {1, 0, 2, 0, 1, 1, 1, 1, 4, 1, 0};
        for (int what = 0; what < now.length; what++) {
            DUE.is("now(" + what + ")", x.now(what), now[what]);
        }
        DUE.is("value(1, 1)", x.value(1, 1), 6);
        DUE.is("in(0, 1)", x.in(0, 1), 2);
        DUE.is("span", x.span(1, 0, 1), 2);
        DUE.is("points", x.points(0, 0), 0);
        DUE.is("fun", x.fun(1, 2), 1);
        DUE.is("said(0)", x.said(0), 0);
        DUE.is("nothing can be undone", x.undo(), -1);
        DUE.is("it goes on", x.steps(500), 2);
        DUE.is("to its end", x.result(), 1);
        DUE.is("that can be undone", x.undo(), 0);
        DUE.is("sentence() knows its FUNS", Due.sentence(x, "owned main"), 1);
        DUE.is("said(0)", x.said(0), 0);
        DUE.is("restore(0) once more", x.restore(0), true);
        DUE.is("STEPS", x.now(8), 4);
        DUE.is("the SENTENCE as kept", x.steps(500), 2);
        DUE.is("live no more", x.said(-1), 0);
    }

    private static void emptyOne() {
        RegionRooms x = new RegionRooms();
        DUE.is("image(0)", x.image(0), true);
        DUE.is("program()", Due.program(x, "fun f; a is 1;"), 2);
        DUE.is("sentence()", Due.sentence(x, "live"), 1);
        DUE.is("load()", x.load(), true);
        DUE.is("restore(0)", x.restore(0), true);
        DUE.is("no FUNS", x.count(0), 0);
        DUE.is("IDLE", x.now(0), 0);
        DUE.is("no SENTENCE", x.said(-1), -1);
        DUE.is("load()", x.load(), false);
        DUE.is("undo()", x.undo(), -1);
    }

    private static void twoPlaces() {
        RegionRooms x = DUE.with("fun f n; a is n;");
        DUE.is("load()", Due.load(x, 3), true);
        DUE.is("image(0)", x.image(0), true);
        DUE.is("steps(1)", x.steps(1), 1);
        DUE.is("image(1)", x.image(1), true);
        DUE.is("restore(0)", x.restore(0), true);
        DUE.is("RUNS", x.now(0), 1);
        DUE.is("restore(1)", x.restore(1), true);
        DUE.is("ENDED", x.now(0), 2);
        DUE.is("what it gave", x.result(), 3);
        DUE.is("image(0) over the other", x.image(0), true);
        DUE.is("load()", Due.load(x, 4), true);
        DUE.is("restore(0)", x.restore(0), true);
        DUE.is("ENDED", x.now(0), 2);
    }

    private static void cellsComeBack() {
        RegionRooms x = DUE.with("fun main n; p is pair n n; h is pair p n;");
        DUE.is("load()", Due.load(x, 3), true);
        DUE.is("steps(2)", x.steps(2), 2);
        DUE.is("image(0)", x.image(0), true);
        DUE.is("load()", Due.load(x, 7), true);
        DUE.is("steps(1)", x.steps(1), 1);
        DUE.is("its LEFT", x.in(0, 0), 7);
        DUE.is("restore(0)", x.restore(0), true);
        DUE.is("its LEFT as kept", x.in(0, 0), 3);
        DUE.is("the other's LEFT", x.in(1, 0), 0);
        DUE.is("the other's RIGHT", x.in(1, 1), 3);
        DUE.is("kinds", 10 * x.cell(1, 1) + x.cell(1, 2), 21);
        DUE.is("result()", x.result(), 1);
    }

    /** The tape, and what fault() and ran() tell, are no part of an image. */
    private static void otherThingsStay() {
        RegionRooms x = DUE.with("fun f n; a is n;");
        DUE.is("image(0)", x.image(0), true);
        DUE.is("run()", Due.run(x, 9), 2);
        DUE.is("program() with a FAULT", Due.program(x, "y"), -1);
        Due.feed(x, "abcd");
        DUE.is("restore(0)", x.restore(0), true);
        DUE.is("the tape", x.count(4), 4);
        DUE.is("fault()", x.fault(), 4);
        DUE.is("ran(6)", x.ran(6), 9);
    }
}
