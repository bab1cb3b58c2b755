/** The boundaries of REGIONS, of the MACHINE and of the judge that 'Terms' names, one test a sentence. */
public final class StepEdgeTest {
    private static final Due DUE = new Due("StepEdgeTest");
    private static final Edges DOC = new Edges(DUE);
    /** f counts to n, by four STEPS each; its FRAME is LEFT. */
    private static final String COUNT = "fun f i n; o is 1; j is sum i o; c is less j n; x is when c f j n else i; ";
    /** MAIN's number times 16, six times: 128 becomes the least int, 255 one below 0. */
    private static final String BIG = "fun d a; b is sum a a; c is sum b b; d is sum c c; e is sum d d; "
        + "fun main n; a is call d n; b is call d a; c is call d b; d is call d c; e is call d d; f is call d e; z is 0; ";

    public static void main(String[] args) {
        pointsToNone();
        leastThatMustBeTheSame();
        whoAreTheSame();
        numbered();
        reachesItself();
        owns();
        spanOfOneLine();
        finite();
        idleAtFirst();
        latestRoom();
        asManyNumbers();
        allIsAway();
        outerRoomsByNumber();
        noStepUnlessItRuns();
        spanRoomsByNumber();
        sideOfANumber();
        numberOfAPair();
        twelveFrames();
        notIfLeft();
        twoHundredCells();
        freedCellsDoNotCount();
        fiveThousandSteps();
        theLeastReason();
        aStopIsCounted();
        roomsThatAStopMadeStay();
        leastFreeCell();
        sumWraps();
        lessOfTheSame();
        notZero();
        noCall();
        left();
        notLeft();
        freedOfThisFrame();
        sameStep();
        lastResult();
        reachedFromTheResult();
        otherCells();
        greatestNumber();
        ownStays();
        drawn();
        newProgram();
        throwingChangesNothing();
        DUE.end();
    }

    private static RegionRooms loaded(String text, int... numbers) {
        RegionRooms x = DUE.with(text);
        DUE.is("load() of " + text, Due.load(x, numbers), true);
        return x;
    }

    private static void gives(String text, int number, int want) {
        RegionRooms x = DUE.with(text);
        DUE.is("run() of " + text, Due.run(x, number), 2);
        DUE.is("the number of " + number + " by " + text, x.ran(6), want);
    }

    private static void stops(String text, int why, int steps, int... numbers) {
        RegionRooms x = DUE.with(text);
        DUE.is("run() of " + text, Due.run(x, numbers), 3);
        DUE.is("why " + text, x.ran(4), why);
        DUE.is("STEPS " + text, x.ran(0), steps);
    }

    private static void ends(String text, int steps, int... numbers) {
        RegionRooms x = DUE.with(text);
        DUE.is("run() of " + text, Due.run(x, numbers), 2);
        DUE.is("why " + text, x.ran(4), 0);
        DUE.is("STEPS " + text, x.ran(0), steps);
    }

    private static void pointsToNone() {
        DOC.term("each VAR, and LEFT and RIGHT of each REGION, may point to one REGION, or to none.");
        RegionRooms x = DUE.with("fun main n; a is pair n n; b is pair n a; c is pair a n;");
        DUE.is("a number's VAR", x.points(0, 0), -1);
        DUE.is("LEFT of a", x.region(0, 0), -1);
        DUE.is("RIGHT of a", x.region(0, 1), -1);
        DUE.is("LEFT of b", x.region(1, 0), -1);
        DUE.is("RIGHT of b", x.region(1, 1), 0);
        DUE.is("LEFT of c", x.region(2, 0), 0);
        DUE.is("RIGHT of c", x.region(2, 1), -1);
        RegionRooms none = DUE.with("fun main n; a is sum n n; b is less a n; c is pick n a b;");
        DUE.is("no REGION at all", none.count(2), 0);
    }

    private static void leastThatMustBeTheSame() {
        DOC.term("Those are the least that must be the same by all LINES");
        RegionRooms x = DUE.with("fun main n; a is pair n n; b is pair n n; c is sum a b; d is less a b;");
        DUE.is("'sum', 'less' make none the same", x.count(2), 2);
        RegionRooms y = DUE.with("fun main n; a is pair n n; b is pair n n; c is pick a b b; d is n;");
        DUE.is("nor does what 'pick' looks at", y.count(2), 2);
        RegionRooms z = DUE.with("fun main n; a is pair n n; b is pair n n; c is pick n a b; d is n;");
        DUE.is("what it picks is the same", z.count(2), 1);
        RegionRooms w = DUE.with("fun f a; r is 1; fun main n; a is pair n n; b is pair n n; c is when a f n else n;");
        DUE.is("nor what 'when' looks at", w.count(2), 2);
        DUE.is("its number stays one", w.points(1, 0), -1);
    }

    private static void whoAreTheSame() {
        DOC.term("(Who are the same point to one REGION, if one of them points to some; of one REGION LEFT is one, RIGHT is one.)");
        RegionRooms x = DUE.with("fun main n m; a is n; b is a; c is left b; d is left n; e is pair m m; f is pick m c e; g is right a;");
        DUE.is("n points by what b does", x.points(0, 0), x.points(0, 3));
        DUE.is("LEFT is one", x.points(0, 4), x.points(0, 5));
        DUE.is("LEFT of it", x.region(x.points(0, 0), 0), x.points(0, 4));
        DUE.is("RIGHT of it is another", x.region(x.points(0, 0), 1), x.points(0, 8));
        DUE.is("RIGHT is none", x.points(0, 8), -1);
        DUE.is("REGIONS", x.count(2), 2);
    }

    private static void numbered() {
        DOC.term("the REGION to which it points, if it was not there, then by its LEFT, then by its RIGHT likewise.");
        RegionRooms x = DUE.with("fun f p; r is right p; l is left p; m is right l; k is left m; t is right r; fun g q; s is left q;");
        DUE.is("p", x.points(0, 0), 0);
        DUE.is("its LEFT, ahead of its RIGHT", x.points(0, 2), 1);
        DUE.is("RIGHT of that LEFT", x.points(0, 3), 2);
        DUE.is("its RIGHT", x.points(0, 1), 3);
        DUE.is("the next FUN's", x.points(1, 0), 4);
        DUE.is("REGIONS", x.count(2), 5);
    }

    private static void reachesItself() {
        DOC.term("A VAR REACHES the REGION to which it points, and those that its LEFT and RIGHT REACH.");
        RegionRooms x = DUE.with("fun f l; a is right l; b is pick a a l; c is 1; fun main n; z is 0; p is pair n z; q is call f z; "
            + "u is pick n p z; r is 1;");
        DUE.is("a circle of one", x.region(0, 1), 0);
        DUE.is("it is OUTER of f", x.fun(0, 3), 1);
        DUE.is("main OWNS it", x.fun(1, 4), 1);
        RegionRooms y = DUE.with("fun main n; a is pair n n; b is pair a n; c is pair n b; d is 1;");
        DUE.is("through RIGHT, then LEFT: the SPAN of a", y.span(0, 0, 1), 2);
        DUE.is("the SPAN of b", y.span(0, 1, 1), 2);
    }

    private static void owns() {
        DOC.term("A FUN OWNS those that some VAR of it REACHES, and that are not OUTER of it.");
        RegionRooms x = DUE.with("fun f p; a is pair p p; b is 1; fun g p; a is pair p p; fun main n; b is call f n; c is call g n; d is 1;");
        DUE.is("f OWNS what it alone REACHES", x.fun(0, 4), 1);
        DUE.is("OUTER of f", x.fun(0, 3), 0);
        DUE.is("g does not OWN its RESULT's", x.fun(1, 4), 0);
        DUE.is("OUTER of g", x.fun(1, 3), 2);
        DUE.is("main OWNS what g gives", x.fun(2, 4), 2);
        RegionRooms y = DUE.with("fun f p; l is left p; b is 1; fun main n; c is n;");
        DUE.is("a PARAMETER's is OUTER", y.fun(0, 3), 1);
        DUE.is("and not OWNED", y.fun(0, 4), 0);
    }

    private static void spanOfOneLine() {
        DOC.term("from the first LINE of it to the last one in which there is a VAR (x, too) that REACHES it.");
        RegionRooms x = DUE.with("fun main n; o is 1; p is pair n n; r is 2;");
        DUE.is("its first LINE", x.span(0, 0, 0), 1);
        DUE.is("its last LINE, by x alone", x.span(0, 0, 1), 1);
        RegionRooms y = DUE.with("fun main n; p is pair n n; o is 1; r is left p;");
        DUE.is("the first LINE of all", y.span(0, 0, 0), 0);
        DUE.is("the last LINE of all", y.span(0, 0, 1), 2);
        RegionRooms z = DUE.with("fun f; r is 1; fun main n; o is 1; p is pair n n; d is 1; e is when p f else n; g is 1;");
        DUE.is("by what 'when' looks at", z.span(1, 0, 1), 3);
    }

    private static void finite() {
        DOC.term("A REGION is FINITE, if it is not OUTER of MAIN, and one FUN has a 'pair' that lays cells in it, no other one has, "
            + "and that one OWNS it.");
        RegionRooms all = DUE.with("fun main n; p is pair n n; q is pair n n; r is pick n p q; s is 1;");
        DUE.is("two 'pairs' of one FUN", all.region(0, 4), 1);
        RegionRooms outer = DUE.with("fun main n; p is pair n n; q is p;");
        DUE.is("OUTER of MAIN", outer.region(0, 4), 0);
        RegionRooms none = DUE.with("fun main n; z is 0; p is left z; q is 1;");
        DUE.is("no FUN has a 'pair'", none.region(0, 4), 0);
        DUE.is("though it is OWNED", none.region(0, 2), 1);
        RegionRooms two = DUE.with("fun f p; a is pair p p; fun main n; b is pair n n; c is call f n; d is pick n b c; e is 1;");
        DUE.is("two FUNS have one", two.region(0, 3), 3);
        DUE.is("so it is not", two.region(0, 4), 0);
        RegionRooms other = DUE.with("fun f p; a is pair p p; fun main n; c is call f n; e is 1;");
        DUE.is("another FUN OWNS it", other.region(0, 4), 0);
        DUE.is("FINITE ones", other.count(3), 0);
    }

    private static void idleAtFirst() {
        DOC.term("The MACHINE is IDLE at first");
        RegionRooms x = DUE.with("fun main n; p is pair n n;");
        DUE.is("IDLE", x.now(0), 0);
        DUE.is("no ROOM", x.now(6), 0);
        DUE.is("no FRAME", x.now(2), 0);
    }

    private static void latestRoom() {
        DOC.term("a 'pair' lays its CELL in the latest ROOM of the REGION to which x points.");
        RegionRooms x = loaded("fun f i n; o is 1; j is sum i o; p is pair i i; c is less j n; r is when c f j n else j; s is left p; t is 1; "
            + "fun main n; z is 0; r is call f z n;", 3);
        DUE.is("steps(15)", x.steps(15), 15);
        DUE.is("ROOMS", x.now(6), 3);
        for (int k = 0; k < 3; k++) {
            DUE.is("one CELL in ROOM " + k, x.roomful(k), 1);
        }
        DUE.is("steps(3)", x.steps(3), 3);
        DUE.is("the latest is FREED", x.now(6), 2);
        DUE.is("with its CELL", x.cell(2, 0), -1);
        DUE.is("the ones ahead stay", x.in(1, 0), 1);
    }

    private static void asManyNumbers() {
        DOC.term("To LOAD numbers (as many as MAIN has PARAMETERS)");
        String[] parameters = {"", " a", " a b", " a b c"};
        for (int has = 0; has <= 3; has++) {
            RegionRooms x = DUE.with("fun main" + parameters[has] + "; r is 1;");
            for (int given = 0; given <= 4; given++) {
                DUE.is("load() of " + given + " for " + has, Due.load(x, new int[given]), given == has);
                DUE.is("run() of " + given + " for " + has, Due.run(x, new int[given]), given == has ? 2 : -1);
            }
            for (int i = 0; i < 20; i++) {
                x.feed(0, 0, 0, 0, 0);
            }
            DUE.is("load() of 400", x.load(), false);
        }
    }

    private static void allIsAway() {
        DOC.term("all ROOMS and CELLS are away");
        RegionRooms x = loaded("fun main n; p is pair n n; q is pair p n; r is left q; s is 1;", 3);
        DUE.is("steps(2)", x.steps(2), 2);
        DUE.is("CELLS", x.now(5), 2);
        DUE.is("ROOMS", x.now(6), 2);
        DUE.is("load() again", Due.load(x, 4), true);
        DUE.is("no CELLS", x.now(5), 0);
        DUE.is("no ROOMS", x.now(6), 0);
        DUE.is("no CELL 0", x.cell(0, 0), -1);
        DUE.is("no ROOM 0", x.room(0), -1);
        DUE.is("STEPS", x.now(8), 0);
        DUE.is("MOST", x.now(7), 0);
    }

    private static void outerRoomsByNumber() {
        DOC.term("one of each REGION that is OUTER of MAIN is made (by number)");
        RegionRooms x = loaded("fun f n; p is pair n n; q is pair p n; fun main n; o is pair n n; t is left o; r is call f n;", 1);
        DUE.is("OUTER of MAIN", x.fun(1, 3), 3);
        DUE.is("ROOMS", x.now(6), 2);
        DUE.is("the first", x.room(0), 0);
        DUE.is("the second", x.room(1), 1);
        DUE.is("the RESULT points to the second", x.points(1, 3), 1);
        DUE.is("one that is OWNED comes later", x.region(2, 5), 0);
    }

    private static void noStepUnlessItRuns() {
        DOC.term("A STEP, if it RUNS");
        RegionRooms x = DUE.with("fun main n; r is left n;");
        DUE.is("IDLE: no STEP", x.steps(1), 0);
        DUE.is("load()", Due.load(x, 1), true);
        DUE.is("the STEP that stops it", x.steps(500), 1);
        DUE.is("STOPPED: no STEP", x.steps(1), 0);
        DUE.is("still STOPPED", x.now(0), 3);
        RegionRooms y = loaded("fun main n; r is n;", 1);
        DUE.is("to its end", y.steps(500), 1);
        DUE.is("ENDED: no STEP", y.steps(1), 0);
        DUE.is("STEPS", y.now(8), 1);
    }

    private static void spanRoomsByNumber() {
        DOC.term("first a ROOM is made of each REGION that its FUN OWNS and whose SPAN begins with this LINE (by number).");
        RegionRooms x = loaded("fun f n; p is pair n n; q is pair p n; fun main n; a is call f n; b is left a; c is left b;", 1);
        DUE.is("none ahead of the STEP", x.now(6), 0);
        DUE.is("steps(1)", x.steps(1), 1);
        DUE.is("two", x.now(6), 2);
        DUE.is("the first", x.room(0), 0);
        DUE.is("the second", x.room(1), 1);
        DUE.is("a points to the second", x.points(1, 1), 1);
    }

    private static void sideOfANumber() {
        DOC.term("1 'left', 'right' of a number");
        stops("fun main n; r is left n;", 1, 1, 0);
        stops("fun main n; r is right n;", 1, 1, 255);
        stops("fun main n; z is 0; p is pair z n; l is left p; r is right l;", 1, 4, 0);
    }

    private static void numberOfAPair() {
        DOC.term("2 'sum', 'less' of a PAIR, a PAIR first behind 'pick', 'when'");
        String[] last = {"sum p n", "sum n p", "sum p p", "less p n", "less n p", "less p p", "pick p n n", "when p f n else n"};
        for (String expr : last) {
            stops("fun f a; r is 1; fun main n; p is pair n n; r is " + expr + ";", 2, 2, 0);
        }
        ends("fun f a; r is 1; fun main n; p is pair n n; r is pick n p p;", 2, 0);
        ends("fun f a; r is a; fun main n; p is pair n n; r is when n f p else p;", 2, 0);
    }

    private static void twelveFrames() {
        DOC.term("3 for a call (with 'when', if there is one): there are 12 FRAMES");
        String call = "fun f i n; o is 1; j is sum i o; c is less j n; k is when c f j n else i; l is 1; fun main n; z is 0; a is call f z n; b is a;";
        ends(call, 2 + 11 * 4 + 11 + 1, 11);
        stops(call, 3, 2 + 11 * 4, 12);
        RegionRooms x = loaded(call, 12);
        DUE.is("steps(500)", x.steps(500), 46);
        DUE.is("FRAMES", x.now(2), 12);
        stops("fun f n; a is call f n; b is 1; fun main n; a is call f n; b is 1;", 3, 12, 1);
    }

    private static void notIfLeft() {
        DOC.term("(but not, if this one is LEFT)");
        RegionRooms x = loaded("fun t a; r is a; fun f i n; o is 1; j is sum i o; c is less j n; k is when c f j n else i; l is call t k; "
            + "fun main n; z is 0; a is call f z n; b is a;", 11);
        DUE.is("steps(46)", x.steps(46), 46);
        DUE.is("12 FRAMES, a 'call' comes", 10 * x.now(2) + x.now(4), 124);
        DUE.is("it goes on", x.steps(1), 1);
        DUE.is("it RUNS", x.now(0), 1);
        DUE.is("FRAMES", x.now(2), 12);
        DUE.is("in t", x.now(3), 0);
        DUE.is("one was LEFT", x.now(10), 1);
    }

    private static void twoHundredCells() {
        DOC.term("4 for a 'pair': there are 200 CELLS");
        String list = "fun f i n l; o is 1; j is sum i o; p is pair i l; c is less j n; r is when c f j n p else p; "
            + "fun main n; z is 0; e is 0; r is call f z n e;";
        ends(list, 3 + 5 * 199, 199);
        ends(list, 3 + 5 * 200, 200);
        stops(list, 4, 3 + 5 * 200 + 3, 201);
        RegionRooms x = loaded(list, 200);
        x.steps(500);
        x.steps(500);
        x.steps(500);
        DUE.is("ENDED", x.now(0), 2);
        DUE.is("CELLS", x.now(5), 200);
        DUE.is("the last CELL", x.result(), 199);
        DUE.is("cell(199, 2)", x.cell(199, 2), 2);
        DUE.is("reached()", x.reached(), 200);
    }

    private static void freedCellsDoNotCount() {
        DOC.term("there are 200 CELLS");
        RegionRooms x = DUE.with("fun f i n; o is 1; j is sum i o; p is pair i i; c is less j n; r is when c f j n else j; "
            + "fun main n; z is 0; r is call f z n;");
        DUE.is("run()", Due.run(x, 255), 2);
        DUE.is("laid", x.ran(3), 255);
        DUE.is("MOST", x.ran(1), 1);
    }

    private static void fiveThousandSteps() {
        DOC.term("5 there were 5000 STEPS ahead since it was LOADED.");
        String text = COUNT + "fun main; z is 0; m is 999; k is 249; n is sum m k; x is call f z n; a is 1; b is 2; ";
        ends(text, 4999);
        ends(text + "c is 3; ", 5000);
        stops(text + "c is 3; d is 4; ", 5, 5001);
        RegionRooms x = loaded(text + "c is 3; d is 4; e is 5;");
        for (int i = 0; i < 10; i++) {
            DUE.is("steps(500)", x.steps(500), 500);
        }
        DUE.is("it RUNS behind 5000", x.now(0), 1);
        DUE.is("one more", x.steps(500), 1);
        DUE.is("why", x.now(1), 5);
        DUE.is("load() again", x.load(), true);
        DUE.is("since it was LOADED", x.steps(500), 500);
    }

    private static void theLeastReason() {
        DOC.term("Then why it STOPS, the least");
        String text = COUNT + "fun main; z is 0; m is 999; k is 248; n is sum m k; x is call f z n; p is pair z z; a is 1; b is 1; q is p; "
            + "c is 1; d is 1; e is 1; ";
        stops(text + "r is left z;", 1, 5001);
        stops(text + "r is sum p z;", 2, 5001);
        stops(text + "r is pair z z;", 5, 5001);
        stops(text + "r is call f z z;", 5, 5001);
        // twelve FRAMES are there behind the 5000th STEP
        stops(COUNT + "fun g n; a is call g n; b is 1; fun main; z is 0; m is 999; k is 247; n is sum m k; x is call f z n; y is call g z; w is 1;",
            3, 5001);
        // 200 CELLS are there behind the 5000th STEP
        stops(COUNT + "fun b i n l; o is 1; j is sum i o; p is pair i l; c is less j n; r is when c b j n p else p; "
            + "fun main; z is 0; h is 200; e is 0; y is call b z h e; m is 998; x is call f z m; a is 1; c is 1; r is pair z y;", 4, 5001);
        // a 'when' of a PAIR with 12 FRAMES, beside one of a number
        String deep = "fun d i n; o is 1; j is sum i o; c is less j n; q is pair o o; w is pick c c q; a is when w d j n else j; b is 1; "
            + "fun main n; z is 0; r is call d z n;";
        stops(deep, 2, 2 + 6 * 12, 12);
        stops(deep, 3, 2 + 6 * 12, 13);
    }

    private static void aStopIsCounted() {
        DOC.term("(Such a STEP is counted, too; ROOMS that it made stay; of its FRAME nothing is changed.)");
        RegionRooms x = loaded("fun main n; o is 1; z is 0; p is pair o o; l is left p; r is left l; q is pair z z;", 5);
        DUE.is("steps(500) counts it", x.steps(500), 5);
        DUE.is("now(8) counts it", x.now(8), 5);
        DUE.is("its LINE", x.now(4), 4);
        DUE.is("its x has no VALUE", x.kind(0, 5), 0);
        DUE.is("its VARS have theirs", x.value(0, 4), 1);
        RegionRooms z = loaded("fun main n; o is 1; p is left o; q is 1;", 5);
        DUE.is("its first LINE makes the ROOM", z.steps(1), 1);
        DUE.is("the STEP that stops", z.steps(1), 1);
        DUE.is("the ROOM is not FREED, though its SPAN ends", z.now(6), 1);
        DUE.is("o keeps its VALUE", z.value(0, 1), 1);
    }

    /** By a 'pair' with 200 CELLS, by a 'call' with 12 FRAMES, and behind 5000 STEPS. */
    private static void roomsThatAStopMadeStay() {
        DOC.term("ROOMS that it made stay");
        RegionRooms cells = loaded("fun f i n l; o is 1; j is sum i o; p is pair i l; c is less j n; r is when c f j n p else p; "
            + "fun main n; z is 0; e is 0; r is call f z n e; k is 1; q is pair k k; t is r;", 200);
        for (int i = 0; i < 3; i++) {
            cells.steps(500);
        }
        DUE.is("why: 200 CELLS", cells.now(1), 4);
        DUE.is("STEPS", cells.now(8), 3 + 1000 + 2);
        DUE.is("ROOMS", cells.now(6), 2);
        DUE.is("the one that it made", cells.room(1), cells.points(1, 5));
        DUE.is("it is empty", cells.roomful(1), 0);
        DUE.is("CELLS laid", cells.now(9), 200);
        RegionRooms frames = loaded("fun p n; r is pair n n; fun f i n; o is 1; j is sum i o; c is less j n; k is when c f j n else j; q is call p o; "
            + "s is 1; fun main n; z is 0; a is call f z n; b is 1;", 11);
        DUE.is("steps(500)", frames.steps(500), 2 + 11 * 4 + 1);
        DUE.is("why: 12 FRAMES", frames.now(1), 3);
        DUE.is("FRAMES", frames.now(2), 12);
        DUE.is("ROOMS", frames.now(6), 1);
        RegionRooms steps = loaded(COUNT + "fun main; z is 0; m is 999; k is 249; n is sum m k; x is call f z n; a is 1; b is 2; c is 3; "
            + "p is pair z z; q is 1;");
        for (int i = 0; i < 11; i++) {
            steps.steps(500);
        }
        DUE.is("why: 5000 STEPS", steps.now(1), 5);
        DUE.is("STEPS", steps.now(8), 5001);
        DUE.is("ROOMS", steps.now(6), 1);
        DUE.is("CELLS", steps.now(5), 0);
        DUE.is("its x has no VALUE", steps.kind(0, 8), 0);
    }

    private static void leastFreeCell() {
        DOC.term("a new CELL (the least number, from 0, that is free)");
        RegionRooms x = loaded("fun main n; a is pair n n; b is pair n n; c is pair n n; h is left b; d is pair n n; e is pair n n; i is left a; "
            + "g is pair n n; j is left c; k is left d; l is left e; m is left g;", 2);
        DUE.is("steps(1)", x.steps(1), 1);
        DUE.is("the first is 0", x.value(0, 1), 0);
        DUE.is("steps(2)", x.steps(2), 2);
        DUE.is("the third is 2", x.value(0, 3), 2);
        DUE.is("steps(2)", x.steps(2), 2);
        DUE.is("1 was free", x.value(0, 5), 1);
        DUE.is("steps(1)", x.steps(1), 1);
        DUE.is("then 3", x.value(0, 6), 3);
        DUE.is("steps(2)", x.steps(2), 2);
        DUE.is("0 was free", x.value(0, 8), 0);
    }

    private static void sumWraps() {
        DOC.term("the sum (an int, wrapping)");
        gives(BIG + "r is sum f z;", 128, Integer.MIN_VALUE);
        gives(BIG + "r is sum f f;", 128, 0);
        gives(BIG + "r is sum f z;", 255, -16777216);
        gives(BIG + "r is sum f z;", 127, 127 << 24);
        gives(BIG + "r is sum f f;", 127, -33554432);
    }

    private static void lessOfTheSame() {
        DOC.term("1, if the first is less, else 0");
        gives(BIG + "r is less z n;", 1, 1);
        gives(BIG + "r is less n z;", 1, 0);
        gives(BIG + "r is less n n;", 1, 0);
        gives(BIG + "r is less f z;", 128, 1);
        gives(BIG + "r is less z f;", 128, 0);
        gives("fun main n; p is 9; r is less n p;", 8, 1);
        gives("fun main n; p is 9; r is less n p;", 9, 0);
        gives("fun main n; p is 9; r is less n p;", 10, 0);
    }

    private static void notZero() {
        DOC.term("the second, if the first is not 0, else the third");
        gives("fun main n; a is 7; b is 8; r is pick n a b;", 0, 8);
        gives("fun main n; a is 7; b is 8; r is pick n a b;", 1, 7);
        gives("fun main n; a is 7; b is 8; r is pick n a b;", 255, 7);
        gives(BIG + "o is 1; r is pick f o z;", 128, 1);
    }

    private static void noCall() {
        DOC.term("that, if the VAR is not 0, else the VALUE behind 'else' (then there is no call).");
        String text = "fun f a; r is 7; fun main n; e is 9; r is when n f e else e; s is r;";
        ends(text, 3, 0);
        ends(text, 4, 1);
        gives(text, 0, 9);
        gives(text, 1, 7);
        gives(BIG + "r is when f d n else z;", 128, 2048);
        // no call, so 12 FRAMES are no reason
        ends("fun f i n; o is 1; j is sum i o; c is less j n; k is when c f j n else i; l is 1; fun main n; z is 0; a is call f z n;",
            2 + 12 * 4 + 12, 12);
    }

    private static void left() {
        DOC.term("the FRAME that calls is LEFT: it is away ahead, and what comes is given to whom it would have given.");
        RegionRooms x = loaded("fun t a; b is sum a a; fun s a; b is call t a; fun main n; a is call s n; b is sum a n;", 5);
        DUE.is("steps(1)", x.steps(1), 1);
        DUE.is("main stays", x.now(2), 2);
        DUE.is("none LEFT", x.now(10), 0);
        DUE.is("steps(1)", x.steps(1), 1);
        DUE.is("s is away", x.now(2), 2);
        DUE.is("t is there", x.now(3), 0);
        DUE.is("one LEFT", x.now(10), 1);
        DUE.is("steps(1)", x.steps(1), 1);
        DUE.is("given to main", x.value(0, 1), 10);
        RegionRooms y = loaded("fun t a; b is sum a a; fun main n; a is call t n;", 5);
        DUE.is("steps(1)", y.steps(1), 1);
        DUE.is("MAIN is LEFT, too", 10 * y.now(2) + y.now(3), 10);
        DUE.is("steps(1)", y.steps(1), 1);
        DUE.is("given as the MACHINE's", y.result(), 10);
    }

    private static void notLeft() {
        DOC.term("If that is the last LINE of its FUN, and no REGION that this OWNS has a SPAN that ends with it");
        RegionRooms last = DUE.with("fun t a; b is 1; fun main n; p is pair n n; a is left p; b is call t a;");
        DUE.is("a SPAN that ends ahead", last.fun(1, 5), 1);
        RegionRooms with = loaded("fun t a; b is 1; fun main n; p is pair n n; b is call t p;", 5);
        DUE.is("a SPAN that ends with it", with.fun(1, 5), 0);
        DUE.is("steps(2)", with.steps(2), 2);
        DUE.is("the FRAME stays", with.now(2), 2);
        DUE.is("so does the ROOM", with.now(6), 1);
        DUE.is("steps(1)", with.steps(1), 1);
        DUE.is("FREED at the end", with.now(6), 0);
        RegionRooms outer = DUE.with("fun t a; b is a; fun main n; p is pair n n; b is call t p;");
        DUE.is("a REGION that is OUTER has no SPAN", outer.fun(1, 5), 1);
        RegionRooms ahead = loaded("fun t a; b is 1; fun main n; a is call t n; b is a;", 5);
        DUE.is("not the last LINE", ahead.fun(1, 5), 0);
        DUE.is("steps(1)", ahead.steps(1), 1);
        DUE.is("the FRAME stays there", ahead.now(2), 2);
    }

    private static void freedOfThisFrame() {
        DOC.term("it is away with all its CELLS, and VARS of this FRAME that REACH that REGION have no VALUE any more.");
        RegionRooms x = loaded("fun f i n; o is 1; p is pair o o; q is pair p o; j is sum i o; c is less j n; r is when c f j n else j; "
            + "s is left q; t is 5; u is 6; fun main n; z is 0; r is call f z n;", 2);
        DUE.is("steps(2 + 6 + 6)", x.steps(14), 14);
        DUE.is("ROOMS", x.now(6), 4);
        DUE.is("steps(1)", x.steps(1), 1);
        DUE.is("two are FREED: q's, and s REACHES p's for the last time", x.now(6), 2);
        DUE.is("p of this FRAME", x.kind(1, 3), 0);
        DUE.is("q of this FRAME", x.kind(1, 4), 0);
        DUE.is("s of this FRAME", x.kind(1, 8), 0);
        DUE.is("o of this FRAME", x.kind(1, 2), 1);
        DUE.is("p of the FRAME ahead", x.kind(0, 3), 2);
        DUE.is("q of the FRAME ahead", x.kind(0, 4), 2);
        DUE.is("CELLS", x.now(5), 2);
    }

    private static void sameStep() {
        DOC.term("its RESULT is x of the LINE that called (whose ROOMS are FREED then, and so on), in the same STEP");
        RegionRooms x = loaded("fun t a; b is left a; fun s n; p is pair n n; b is call t p; fun u n; p is pair n n; q is left p; b is call s n; "
            + "fun main n; p is pair n n; b is call t p; c is call u b; d is pair c n; e is left d;", 6);
        DUE.is("steps(3)", x.steps(3), 3);
        DUE.is("t gave it, the ROOM is FREED", 100 * x.now(2) + 10 * x.now(6) + x.now(8), 103);
        DUE.is("x has it", x.value(0, 2), 6);
        DUE.is("steps(6)", x.steps(6), 6);
        DUE.is("in t, for s: u is LEFT", 100 * x.now(2) + 10 * x.now(6) + x.now(3), 310);
        DUE.is("steps(1)", x.steps(1), 1);
        DUE.is("t and s are away, c has it", 100 * x.now(2) + 10 * x.now(6) + x.value(0, 3), 106);
    }

    private static void lastResult() {
        DOC.term("the last one's RESULT is that of the MACHINE: it has ENDED.");
        RegionRooms x = loaded("fun main n; r is n;", 9);
        DUE.is("ahead", x.gave(), 0);
        DUE.is("steps(1)", x.steps(1), 1);
        DUE.is("ENDED", x.now(0), 2);
        DUE.is("FRAMES", x.now(2), 0);
        DUE.is("the RESULT", x.result(), 9);
    }

    private static void reachedFromTheResult() {
        DOC.term("REACHED are CELLS to which one comes from VARS of all FRAMES that have a VALUE (and from the RESULT, if it has ENDED).");
        RegionRooms x = loaded("fun main n; p is pair n n; q is pair n n; r is pair n p; s is pick n p q;", 0);
        DUE.is("steps(2)", x.steps(2), 2);
        DUE.is("from VARS", x.reached(), 2);
        DUE.is("steps(1)", x.steps(1), 1);
        DUE.is("r is FREED", x.reached(), 2);
        DUE.is("steps(1)", x.steps(1), 1);
        DUE.is("from the RESULT", x.reached(), 1);
        DUE.is("that CELL", x.isReached(x.result()), 1);
        DUE.is("the other one", x.isReached(0), 0);
        RegionRooms y = loaded("fun main n; p is pair n n; s is n;", 0);
        DUE.is("steps(500)", y.steps(500), 2);
        DUE.is("a RESULT that is the number 0 is no CELL 0", y.reached(), 0);
    }

    private static void otherCells() {
        DOC.term("DRAG: how many other CELLS there are.");
        RegionRooms x = loaded("fun main n; p is pair n n; q is pair n n; r is pick n p q;", 3);
        DUE.is("no CELLS", x.drag(), 0);
        DUE.is("steps(2)", x.steps(2), 2);
        DUE.is("all are REACHED", x.drag(), 0);
        DUE.is("steps(1)", x.steps(1), 1);
        DUE.is("CELLS", x.now(5), 2);
        DUE.is("one of them is not", x.drag(), 1);
    }

    private static void greatestNumber() {
        DOC.term("MOST: the greatest number of CELLS there was since it was LOADED.");
        RegionRooms x = loaded("fun main n; p is pair n n; q is pair p n; r is left q; s is left r; t is 1;", 3);
        DUE.is("LOADED", x.now(7), 0);
        DUE.is("steps(500)", x.steps(500), 5);
        DUE.is("none is there", x.now(5), 0);
        DUE.is("two were", x.now(7), 2);
        DUE.is("load() again", Due.load(x, 3), true);
        DUE.is("none since then", x.now(7), 0);
        RegionRooms y = loaded("fun main n; p is pair n n; t is 1;", 3);
        DUE.is("steps(1)", y.steps(1), 1);
        DUE.is("one that was FREED in the same STEP", 10 * y.now(7) + y.now(5), 10);
    }

    private static void ownStays() {
        DOC.term("of a MACHINE that is LOADED with numbers of the tape; the own one stays as it is.");
        RegionRooms x = DUE.with("fun main n; p is pair n n; q is left p;");
        DUE.is("run()", Due.run(x, 4), 2);
        DUE.is("IDLE stays IDLE", x.now(0), 0);
        DUE.is("load()", Due.load(x, 5), true);
        DUE.is("run()", Due.run(x, 4), 2);
        DUE.is("STEPS", x.now(8), 0);
        DUE.is("its number", x.value(0, 0), 5);
    }

    private static void drawn() {
        DOC.term("x becomes x * 1103515245 + 12345 (an int, wrapping), the draw is (x >>> 8) % n");
        // 12345 >>> 8 is 48: seed 0 draws 8; the seed -1 draws by a number below 0, as one without a sign
        int[] seeds = {0, -1, Integer.MAX_VALUE, Integer.MIN_VALUE, 2, 12345};
        for (int seed : seeds) {
            int draw = (seed * 1103515245 + 12345 >>> 8) % 10;
            for (int number = 0; number < 10; number++) {
                RegionRooms x = DUE.with("fun f n; r is left n; fun main n; k is " + number + "; a is less n k; b is less k n; c is sum a b; "
                    + "z is 0; r is when c f z else z;");
                DUE.is("seed " + seed + " draws " + number, x.odds(1, seed), number == draw ? 1 : 0);
            }
        }
    }

    private static void newProgram() {
        DOC.term("A new PROGRAM: the MACHINE is IDLE, no SENTENCE.");
        RegionRooms x = loaded("fun main n; p is pair n n;", 3);
        DUE.is("sentence()", Due.sentence(x, "outer"), 1);
        DUE.is("steps(1)", x.steps(1), 1);
        DUE.is("program()", Due.program(x, "fun main n; p is pair n n;"), 2);
        for (int what = 0; what <= 10; what++) {
            DUE.is("now(" + what + ")", x.now(what), what == 3 || what == 4 ? -1 : 0);
        }
        DUE.is("no CELL", x.cell(0, 0), -1);
        DUE.is("no ROOM", x.room(0), -1);
        DUE.is("gave nothing", x.gave(), 0);
        DUE.is("no SENTENCE", x.said(-1), -1);
    }

    private static void throwingChangesNothing() {
        DOC.term("A call that throws changes nothing.");
        RegionRooms x = loaded("fun main n; p is pair n n; q is left p; r is q;", 3);
        DUE.is("sentence()", Due.sentence(x, "live"), 1);
        DUE.is("steps(1)", x.steps(1), 1);
        x.feed(1, 2, 3, 4, 5);
        DUE.noSuch("fun(1, 0)", () -> x.fun(1, 0));
        DUE.noSuch("fun(0, 6)", () -> x.fun(0, 6));
        DUE.noSuch("value(0, 2)", () -> x.value(0, 2));
        DUE.noSuch("in(1, 0)", () -> x.in(1, 0));
        DUE.noSuch("result()", x::result);
        int[] now = {1, 0, 1, 0, 1, 1, 1, 1, 1, 1, 0};
        for (int what = 0; what < now.length; what++) {
            DUE.is("now(" + what + ")", x.now(what), now[what]);
        }
        DUE.is("the tape", x.count(4), 20);
        DUE.is("fault()", x.fault(), 0);
        DUE.is("said(0)", x.said(0), 0);
        DUE.is("undo()", x.undo(), 1);
    }
}
