/** Promises 21, 22 and 23. */
public final class JudgeTest {
    private static final Due DUE = new Due("JudgeTest");

    public static void main(String[] args) {
        idle();
        dragged();
        throughSides();
        allFrames();
        fromTheResult();
        leftSide();
        isReachedAlone();
        DUE.end();
    }

    private static void told(RegionRooms x, String where, int reached, int drag, int... each) {
        DUE.is("reached() " + where, x.reached(), reached);
        DUE.is("drag() " + where, x.drag(), drag);
        for (int c = 0; c < each.length; c++) {
            DUE.is("isReached(" + c + ") " + where, x.isReached(c), each[c]);
        }
        DUE.is("isReached(one more) " + where, x.isReached(each.length), -1);
        DUE.is("isReached(-1) " + where, x.isReached(-1), -1);
        DUE.is("isReached(200) " + where, x.isReached(200), -1);
        DUE.is("isReached(MAX) " + where, x.isReached(Integer.MAX_VALUE), -1);
        DUE.is("isReached(MIN) " + where, x.isReached(Integer.MIN_VALUE), -1);
    }

    private static void idle() {
        told(new RegionRooms(), "of a new one", 0, 0);
        told(DUE.with("fun main n; p is pair n n;"), "IDLE", 0, 0);
    }

    /** Both pairs lie in the ROOM of the one that called, but one alone was given. */
    private static void dragged() {
        RegionRooms x = DUE.with("fun make n; o is 1; m is sum n o; p is pair n n; q is pair m m; r is pick n p q; "
            + "fun main n; a is call make n; b is left a;");
        DUE.is("load()", Due.load(x, 0), true);
        DUE.is("steps(5)", x.steps(5), 5);
        told(x, "both have VARS", 2, 0, 1, 1);
        DUE.is("steps(1)", x.steps(1), 1);
        told(x, "one was given", 1, 1, 0, 1);
        DUE.is("steps(1)", x.steps(1), 1);
        told(x, "ENDED", 0, 0);
        DUE.is("result()", x.result(), 1);
    }

    private static void throughSides() {
        RegionRooms x = DUE.with("fun f i n l; o is 1; j is sum i o; p is pair i l; c is less j n; r is when c f j n p else p; "
            + "fun main n; z is 0; y is call f z n z; w is right y;");
        DUE.is("load()", Due.load(x, 3), true);
        DUE.is("steps(17)", x.steps(17), 17);
        told(x, "a chain", 3, 0, 1, 1, 1);
        DUE.is("steps(1)", x.steps(1), 1);
        told(x, "without its first", 2, 1, 1, 1, 0);
        DUE.is("w", x.result(), 1);
    }

    private static void leftSide() {
        RegionRooms x = DUE.with("fun f i n l; o is 1; j is sum i o; p is pair l i; c is less j n; r is when c f j n p else p; "
            + "fun main n; z is 0; e is 0; y is call f z n e; w is left y;");
        DUE.is("load()", Due.load(x, 4), true);
        DUE.is("steps(23)", x.steps(23), 23);
        told(x, "a chain by LEFT sides", 4, 0, 1, 1, 1, 1);
        DUE.is("steps(1)", x.steps(1), 1);
        told(x, "without its first", 3, 1, 1, 1, 1, 0);
    }

    /** It is judged anew by each call, not by what another one left. */
    private static void isReachedAlone() {
        RegionRooms x = DUE.with("fun main n; p is pair n n; q is pair n n; r is pick n p q;");
        DUE.is("load()", Due.load(x, 0), true);
        DUE.is("steps(2)", x.steps(2), 2);
        DUE.is("isReached(0)", x.isReached(0), 1);
        DUE.is("isReached(1)", x.isReached(1), 1);
        DUE.is("steps(1)", x.steps(1), 1);
        DUE.is("isReached(0) behind the end", x.isReached(0), 0);
        DUE.is("isReached(1) behind the end", x.isReached(1), 1);
    }

    private static void allFrames() {
        RegionRooms x = DUE.with("fun g a; o is 1; b is o; fun main n; p is pair n n; q is call g n; r is left p;");
        DUE.is("load()", Due.load(x, 3), true);
        DUE.is("steps(3)", x.steps(3), 3);
        DUE.is("two FRAMES", x.now(2), 2);
        told(x, "from the first FRAME", 1, 0, 1);
    }

    /** Behind the end there are no VARS: what the RESULT does not reach is dragged. */
    private static void fromTheResult() {
        RegionRooms x = DUE.with("fun main n; p is pair n n; q is pair n n; r is pick n p q;");
        DUE.is("load()", Due.load(x, 1), true);
        DUE.is("steps(2)", x.steps(2), 2);
        told(x, "ahead of the end", 2, 0, 1, 1);
        DUE.is("steps(1)", x.steps(1), 1);
        told(x, "from the RESULT", 1, 1, 1, 0);
        // a STOPPED one is judged by its FRAMES
        RegionRooms y = DUE.with("fun main n; p is pair n n; q is sum p p;");
        DUE.is("load()", Due.load(y, 1), true);
        DUE.is("steps(9)", y.steps(9), 2);
        told(y, "STOPPED", 1, 0, 1);
    }
}
