/** The boundaries that each promise names, one test a sentence; every promise has one at least. */
public final class CallEdgeTest {
    private static final Due DUE = new Due("CallEdgeTest");
    private static final Edges DOC = new Edges(DUE);
    private static final int[] WILD = {Integer.MIN_VALUE, Integer.MIN_VALUE + 1, -1000, -2, -1, 1000, Integer.MAX_VALUE - 1,
        Integer.MAX_VALUE};
    /** VARS of f: n p l; of main: n a b c. REGION 0 is OWNED by f, REGION 1 by main. */
    private static final String TWO = "fun f n; p is pair n n; l is left p; fun main n; a is pair n n; b is left a; c is call f b;";
    private static final String LOOP = "fun f n; r is call f n; fun main n; r is call f n;";

    public static void main(String[] args) {
        newObject();
        fedBytes();
        fedTooMany();
        endsTape();
        endRefused();
        programCounts();
        programRefused();
        tapeIsEmptyThen();
        faultOfTheLatest();
        funTold();
        funRefused();
        pointsRefused();
        regionSides();
        regionRefused();
        spanRefused();
        loadNumbers();
        loadRefused();
        stepsTillItDoesNotRun();
        stepsRefused();
        nowOfEach();
        nowWithoutOne();
        nowRefused();
        kindRefused();
        valueRefused();
        cellRefused();
        inRefused();
        gaveNothing();
        resultRefused();
        roomRefused();
        roomfulRefused();
        reachedNone();
        isReachedRefused();
        dragNone();
        runRefused();
        ranRefused();
        ranElse();
        ranLastStep();
        oddsOfSeeds();
        oddsRefused();
        undoWhatCounts();
        undoEight();
        undoNone();
        sentenceCounts();
        sentenceRefused();
        saidRefused();
        imageRefused();
        imageKeeps();
        restoreRefused();
        restoreStays();
        countRefused();
        manyCalls();
        DOC.allPromises(32);
        DUE.end();
    }

    private static RegionRooms loaded(String text, int... numbers) {
        RegionRooms x = DUE.with(text);
        DUE.is("load() of " + text, Due.load(x, numbers), true);
        return x;
    }

    private static void newObject() {
        DOC.promise(1, "A PROGRAM without FUNS; an empty tape.");
        RegionRooms x = new RegionRooms();
        for (int what = 0; what <= 4; what++) {
            DUE.is("count(" + what + ") of a new one", x.count(what), 0);
        }
        DUE.is("its tape is no PROGRAM with FUNS", x.program(), 0);
        DUE.is("load()", x.load(), false);
        DUE.is("run()", x.run(), -1);
        DUE.is("odds()", x.odds(1, 0), -1);
    }

    private static void fedBytes() {
        DOC.promise(2, "Twenty bytes come behind the tape, of each number the highest first: how many it has");
        RegionRooms x = DUE.with("fun main a b c; s is pair a b; t is pair s c;");
        DUE.is("feed()", x.feed(0x01020304, 0, 0, 0, 0), 20);
        DUE.is("end(3)", x.end(3), true);
        DUE.is("load()", x.load(), true);
        DUE.is("the highest", x.value(0, 0), 1);
        DUE.is("the next", x.value(0, 1), 2);
        DUE.is("the third", x.value(0, 2), 3);
        DUE.is("feed()", x.feed(0, 0, 0, 0, 0x000000ff), 20);
        DUE.is("a second comes behind it", x.feed(0x80000000, 0, 0, 0, 0), 40);
        RegionRooms y = new RegionRooms();
        DUE.is("feed(\"fun f n; a is 1;b is\")", y.feed(0x66756e20, 0x66206e3b, 0x20612069, 0x7320313b, 0x62206973), 20);
        DUE.is("feed(\" 2;\")", y.feed(0x20323b20, 0x20202020, 0x20202020, 0x20202020, 0x20202020), 40);
        DUE.is("they are one text", y.program(), 3);
    }

    private static void fedTooMany() {
        DOC.promise(2, "NONE, and none come, if it would have more than 940.");
        RegionRooms x = new RegionRooms();
        for (int i = 1; i <= 47; i++) {
            DUE.is("feed() " + i, x.feed(-1, -1, -1, -1, -1), 20 * i);
        }
        DUE.is("feed() of a full tape", x.feed(1, 1, 1, 1, 1), -1);
        DUE.is("none came", x.count(4), 940);
        for (int n = 939; n > 920; n--) {
            DUE.is("end(" + n + ")", x.end(n), true);
            DUE.is("feed() behind " + n, x.feed(1, 1, 1, 1, 1), -1);
            DUE.is("none came behind " + n, x.count(4), n);
        }
        DUE.is("end(920)", x.end(920), true);
        DUE.is("feed() behind 920", x.feed(1, 1, 1, 1, 1), 940);
    }

    private static void endsTape() {
        DOC.promise(3, "The tape has its first n bytes alone: true");
        RegionRooms x = new RegionRooms();
        DUE.is("end(0) of an empty tape", x.end(0), true);
        x.feed(0x66756e20, 0x663b2061, 0x20697320, 0x313b2e2e, 0);
        DUE.is("all of it", x.end(20), true);
        DUE.is("the first 14", x.end(14), true);
        DUE.is("count(4)", x.count(4), 14);
        DUE.is("what was behind is away", x.program(), 2);
        x.feed(0, 0, 0, 0, 0);
        DUE.is("end(0)", x.end(0), true);
        DUE.is("count(4) then", x.count(4), 0);
    }

    private static void endRefused() {
        DOC.promise(3, "false, if it has not so many, or n is below 0.");
        RegionRooms x = new RegionRooms();
        DUE.is("end(1) of an empty tape", x.end(1), false);
        x.feed(0, 0, 0, 0, 0);
        DUE.is("end(21)", x.end(21), false);
        for (int n : WILD) {
            DUE.is("end(" + n + ")", x.end(n), false);
        }
        DUE.is("it has them still", x.count(4), 20);
        DUE.is("end(19)", x.end(19), true);
        DUE.is("end(20) of 19", x.end(20), false);
    }

    private static void programCounts() {
        DOC.promise(4, "how many LINES, those with fun, too");
        RegionRooms x = new RegionRooms();
        DUE.is("none", x.program(), 0);
        DUE.is("one FUN, one LINE", Due.program(x, "fun f; a is 1;"), 2);
        DUE.is("two FUNS, five LINES", Due.program(x, TWO), 7);
        DUE.is("count(1) without fun", x.count(1), 5);
    }

    private static void programRefused() {
        DOC.promise(4, "-1 less the place of a FAULT: it stays.");
        RegionRooms x = loaded(TWO, 3);
        DUE.is("sentence()", Due.sentence(x, "live"), 1);
        DUE.is("steps(1)", x.steps(1), 1);
        DUE.is("a FAULT at 0", Due.program(x, "?"), -1);
        DUE.is("a FAULT at 1", Due.program(x, " ?"), -2);
        DUE.is("a FAULT at 900", Due.program(x, " ".repeat(901)), -901);
        DUE.is("a FAULT behind a FUN", Due.program(x, "fun g; a is 1; ?"), -16);
        DUE.is("FUNS", x.count(0), 2);
        DUE.is("REGIONS", x.count(2), 2);
        DUE.is("the MACHINE", x.now(8), 1);
        DUE.is("the SENTENCE", x.said(-1), 1);
        DUE.is("what can be undone", x.undo(), 1);
        DUE.is("it goes on", x.steps(500), 5);
        DUE.is("to its end", x.result(), 3);
    }

    private static void tapeIsEmptyThen() {
        DOC.promise(4, "The tape (empty then, here and below)");
        RegionRooms x = new RegionRooms();
        Due.feed(x, "?");
        x.program();
        DUE.is("behind program()", x.count(4), 0);
        Due.feed(x, "?");
        x.sentence();
        DUE.is("behind sentence()", x.count(4), 0);
        Due.feed(x, "?");
        x.load();
        DUE.is("behind load()", x.count(4), 0);
        Due.feed(x, "?");
        x.run();
        DUE.is("behind run()", x.count(4), 0);
    }

    private static void faultOfTheLatest() {
        DOC.promise(5, "The kind of the FAULT of the latest program() or sentence(); 0 without one and ahead of any.");
        RegionRooms x = new RegionRooms();
        DUE.is("ahead of any", x.fault(), 0);
        Due.program(x, "?");
        DUE.is("of program()", x.fault(), 1);
        DUE.is("asked twice", x.fault(), 1);
        Due.sentence(x, "owned f");
        DUE.is("of sentence()", x.fault(), 3);
        Due.program(x, "a");
        DUE.is("of program()", x.fault(), 4);
        x.load();
        x.run();
        DUE.is("load() and run() tell none", x.fault(), 4);
        Due.sentence(x, "live");
        DUE.is("a sentence() without one", x.fault(), 0);
        Due.sentence(x, "");
        DUE.is("an empty sentence()", x.fault(), 1);
        x.program();
        DUE.is("a program() without one", x.fault(), 0);
    }

    private static void funTold() {
        DOC.promise(6, "2 FUNS that it calls (itself, if it does)");
        RegionRooms x = DUE.with("fun a; x is 1; fun b n; x is when n b n else n; fun c; x is call a; fun d; x is 1; "
            + "fun e n; x is call d; y is call b n; z is when n e n else n;");
        int[] calls = {0, 2, 1, 0, 8 + 2 + 16};
        int[] leaves = {0, 1, 1, 0, 1};
        for (int f = 0; f < 5; f++) {
            DUE.is("fun(" + f + ", 2)", x.fun(f, 2), calls[f]);
            DUE.is("fun(" + f + ", 5)", x.fun(f, 5), leaves[f]);
        }
    }

    private static void funRefused() {
        DOC.promise(6, "NoSuchElementException: no such ones.");
        RegionRooms none = new RegionRooms();
        DUE.noSuch("fun(0, 0) of a new one", () -> none.fun(0, 0));
        RegionRooms x = DUE.with(TWO);
        for (int w : WILD) {
            DUE.noSuch("fun(" + w + ", 0)", () -> x.fun(w, 0));
            DUE.noSuch("fun(0, " + w + ")", () -> x.fun(0, w));
        }
        DUE.noSuch("fun(2, 0)", () -> x.fun(2, 0));
        DUE.noSuch("fun(0, 6)", () -> x.fun(0, 6));
        DUE.is("fun(1, 5) is the last one", x.fun(1, 5), 1);
    }

    private static void pointsRefused() {
        DOC.promise(7, "NONE: none, no such ones.");
        RegionRooms none = new RegionRooms();
        DUE.is("points(0, 0) of a new one", none.points(0, 0), -1);
        RegionRooms x = DUE.with(TWO);
        DUE.is("points(0, 1)", x.points(0, 1), 0);
        DUE.is("points(1, 1)", x.points(1, 1), 1);
        DUE.is("it points to none", x.points(1, 3), -1);
        DUE.is("points(0, 3)", x.points(0, 3), -1);
        DUE.is("points(1, 4)", x.points(1, 4), -1);
        DUE.is("points(2, 1)", x.points(2, 1), -1);
        for (int w : WILD) {
            DUE.is("points(" + w + ", 1)", x.points(w, 1), -1);
            DUE.is("points(0, " + w + ")", x.points(0, w), -1);
        }
    }

    private static void regionSides() {
        DOC.promise(8, "0, 1 to which its LEFT, its RIGHT points (NONE: to none)");
        RegionRooms x = DUE.with("fun main n; a is pair n n; b is pair n a; c is 1;");
        DUE.is("LEFT of b", x.region(1, 0), -1);
        DUE.is("RIGHT of b", x.region(1, 1), 0);
        DUE.is("LEFT of a", x.region(0, 0), -1);
        DUE.is("ROOMS when IDLE", x.region(0, 5), 0);
        DUE.is("CELLS when IDLE", x.region(0, 6), 0);
    }

    private static void regionRefused() {
        DOC.promise(8, "NONE, too: no such ones.");
        RegionRooms x = loaded(TWO, 3);
        for (int what = 0; what <= 6; what++) {
            DUE.is("region(2, " + what + ")", x.region(2, what), -1);
            DUE.is("region(-1, " + what + ")", x.region(-1, what), -1);
            DUE.is("region(0, " + what + ") of a new one", new RegionRooms().region(0, what), -1);
        }
        for (int w : WILD) {
            DUE.is("region(" + w + ", 2)", x.region(w, 2), -1);
            DUE.is("region(0, " + w + ")", x.region(0, w), -1);
        }
        DUE.is("region(1, 7)", x.region(1, 7), -1);
        DUE.is("region(1, 2)", x.region(1, 2), 2);
        for (int r = 24; r < 70; r++) {
            DUE.is("region(" + r + ", 5)", x.region(r, 5), -1);
        }
    }

    private static void spanRefused() {
        DOC.promise(9, "NONE: it does not OWN it, no such ones.");
        RegionRooms x = DUE.with(TWO);
        DUE.is("span(0, 0, 0)", x.span(0, 0, 0), 0);
        DUE.is("span(0, 0, 1)", x.span(0, 0, 1), 1);
        DUE.is("f does not OWN 1", x.span(0, 1, 0), -1);
        DUE.is("main does not OWN 0", x.span(1, 0, 1), -1);
        DUE.is("span(2, 0, 0)", x.span(2, 0, 0), -1);
        DUE.is("span(0, 2, 0)", x.span(0, 2, 0), -1);
        DUE.is("span(0, 0, 2)", x.span(0, 0, 2), -1);
        for (int w : WILD) {
            DUE.is("span(" + w + ", 0, 0)", x.span(w, 0, 0), -1);
            DUE.is("span(0, " + w + ", 0)", x.span(0, w, 0), -1);
            DUE.is("span(0, 0, " + w + ")", x.span(0, 0, w), -1);
        }
        for (int r = 24; r < 70; r++) {
            DUE.is("span(0, " + r + ", 0)", x.span(0, r, 0), -1);
        }
        RegionRooms outer = DUE.with("fun main n; p is pair n n;");
        DUE.is("one that is OUTER has none", outer.span(0, 0, 0), -1);
        DUE.is("of a new one", new RegionRooms().span(0, 0, 0), -1);
    }

    private static void loadNumbers() {
        DOC.promise(10, "LOADED with the numbers on the tape (a byte each): true");
        int[] bytes = {0, 1, 127, 128, 255};
        for (int number : bytes) {
            RegionRooms x = loaded("fun main n; r is n;", number);
            DUE.is("the byte " + number, x.value(0, 0), number);
            DUE.is("kind", x.kind(0, 0), 1);
            DUE.is("run()", Due.run(x, number), 2);
            DUE.is("by run(), too", x.ran(6), number);
        }
        DUE.is("without PARAMETERS an empty tape", DUE.with("fun main; r is 1;").load(), true);
    }

    private static void loadRefused() {
        DOC.promise(10, "false: not as told, there are no FUNS (it stays then).");
        RegionRooms none = new RegionRooms();
        DUE.is("no FUNS, an empty tape", none.load(), false);
        DUE.is("no FUNS, a byte", Due.load(none, 1), false);
        RegionRooms x = loaded(TWO, 3);
        DUE.is("steps(1)", x.steps(1), 1);
        DUE.is("too few", x.load(), false);
        DUE.is("too many", Due.load(x, 1, 2), false);
        DUE.is("it RUNS still", x.now(0), 1);
        DUE.is("its STEPS", x.now(8), 1);
        DUE.is("its number", x.value(0, 0), 3);
        DUE.is("its CELL", x.in(0, 1), 3);
        DUE.is("it is none that can be undone", x.undo(), 1);
    }

    private static void stepsTillItDoesNotRun() {
        DOC.promise(11, "n (1 to 500) STEPS, or as many as there are till it does not RUN: how many");
        RegionRooms x = loaded(LOOP, 1);
        DUE.is("steps(1)", x.steps(1), 1);
        DUE.is("steps(500)", x.steps(500), 500);
        DUE.is("STEPS", x.now(8), 501);
        DUE.is("steps(499)", x.steps(499), 499);
        RegionRooms y = loaded("fun main n; a is 1; b is 2; c is 3;", 1);
        DUE.is("three are there", y.steps(500), 3);
        DUE.is("none more", y.steps(500), 0);
        RegionRooms z = loaded("fun main n; a is 1; b is 2; c is 3;", 1);
        DUE.is("just as many", z.steps(3), 3);
        DUE.is("ENDED", z.now(0), 2);
        RegionRooms w = loaded("fun main n; a is 1; b is left a; c is 3;", 1);
        DUE.is("the one that stops is one", w.steps(500), 2);
        DUE.is("IDLE: none", DUE.with(LOOP).steps(1), 0);
        DUE.is("without FUNS: none", new RegionRooms().steps(500), 0);
    }

    private static void stepsRefused() {
        DOC.promise(11, "NONE: not as told.");
        RegionRooms x = loaded(LOOP, 1);
        for (int n : WILD) {
            DUE.is("steps(" + n + ")", x.steps(n), -1);
        }
        DUE.is("steps(0)", x.steps(0), -1);
        DUE.is("steps(501)", x.steps(501), -1);
        DUE.is("no STEP was made", x.now(8), 0);
        DUE.is("none can be undone but load()", x.undo(), 0);
        DUE.is("of an IDLE one, too", x.steps(0), -1);
        DUE.is("of an IDLE one, too", x.steps(501), -1);
    }

    private static void nowOfEach() {
        DOC.promise(12, "4 its LINE that comes next, or by which it STOPPED");
        RegionRooms x = loaded("fun main n; a is 1; b is left a; c is 3;", 1);
        DUE.is("the first", x.now(4), 0);
        DUE.is("steps(1)", x.steps(1), 1);
        DUE.is("the next", x.now(4), 1);
        DUE.is("steps(1)", x.steps(1), 1);
        DUE.is("by which it STOPPED", x.now(4), 1);
        DUE.is("its FUN", x.now(3), 0);
        DUE.is("its FRAME is there", x.now(2), 1);
    }

    private static void nowWithoutOne() {
        DOC.promise(12, "(3, 4: NONE without one)");
        RegionRooms x = DUE.with("fun main n; a is left n;");
        DUE.is("why, while it does not STOP", x.now(1), 0);
        DUE.is("IDLE: no FUN", x.now(3), -1);
        DUE.is("IDLE: no LINE", x.now(4), -1);
        RegionRooms y = loaded("fun main n; a is n;", 1);
        DUE.is("steps(1)", y.steps(1), 1);
        DUE.is("ENDED: no FUN", y.now(3), -1);
        DUE.is("ENDED: no LINE", y.now(4), -1);
        DUE.is("ENDED: why", y.now(1), 0);
    }

    private static void nowRefused() {
        DOC.promise(12, "NONE for another what.");
        RegionRooms x = loaded(TWO, 1);
        for (int w : WILD) {
            DUE.is("now(" + w + ")", x.now(w), -1);
        }
        DUE.is("now(11)", x.now(11), -1);
        DUE.is("now(10)", x.now(10), 0);
    }

    private static void kindRefused() {
        DOC.promise(13, "0 it has no VALUE, 1 a number, 2 a PAIR; NONE: no such ones.");
        RegionRooms x = loaded(TWO, 3);
        DUE.is("no VALUE yet", x.kind(0, 1), 0);
        DUE.is("steps(1)", x.steps(1), 1);
        DUE.is("a number", x.kind(0, 0), 1);
        DUE.is("a PAIR", x.kind(0, 1), 2);
        DUE.is("steps(1)", x.steps(1), 1);
        DUE.is("no VALUE any more", x.kind(0, 1), 0);
        DUE.is("its last VAR", x.kind(0, 3), 0);
        DUE.is("one more", x.kind(0, 4), -1);
        DUE.is("no second FRAME", x.kind(1, 0), -1);
        for (int w : WILD) {
            DUE.is("kind(" + w + ", 0)", x.kind(w, 0), -1);
            DUE.is("kind(0, " + w + ")", x.kind(0, w), -1);
        }
        DUE.is("IDLE", DUE.with(TWO).kind(0, 0), -1);
        DUE.is("of a new one", new RegionRooms().kind(0, 0), -1);
        DUE.is("steps(500)", x.steps(500), 3);
        DUE.is("ENDED", x.kind(0, 0), -1);
    }

    private static void valueRefused() {
        DOC.promise(14, "NoSuchElementException: it has no VALUE, no such ones.");
        RegionRooms x = loaded(TWO, 3);
        DUE.noSuch("no VALUE yet", () -> x.value(0, 1));
        DUE.is("steps(1)", x.steps(1), 1);
        DUE.is("a number", x.value(0, 0), 3);
        DUE.is("a CELL", x.value(0, 1), 0);
        DUE.is("steps(1)", x.steps(1), 1);
        DUE.noSuch("no VALUE any more", () -> x.value(0, 1));
        DUE.noSuch("one more", () -> x.value(0, 4));
        DUE.noSuch("no second FRAME", () -> x.value(1, 0));
        for (int w : WILD) {
            DUE.noSuch("value(" + w + ", 0)", () -> x.value(w, 0));
            DUE.noSuch("value(0, " + w + ")", () -> x.value(0, w));
        }
        RegionRooms idle = DUE.with(TWO);
        DUE.noSuch("IDLE", () -> idle.value(0, 0));
        DUE.is("steps(500)", x.steps(500), 3);
        DUE.noSuch("ENDED", () -> x.value(0, 0));
    }

    private static void cellRefused() {
        DOC.promise(15, "1, 2 what is LEFT, RIGHT in it (1 a number, 2 a PAIR). NONE: no such ones.");
        RegionRooms x = loaded("fun main n; a is pair n n; b is pair a n; c is pair n a; d is pair b c;", 3);
        DUE.is("none yet", x.cell(0, 0), -1);
        DUE.is("steps(3)", x.steps(3), 3);
        int[] told = {0, 1, 1, 1, 2, 1, 2, 1, 2};
        for (int i = 0; i < told.length; i++) {
            DUE.is("cell(" + i / 3 + ", " + i % 3 + ")", x.cell(i / 3, i % 3), told[i]);
        }
        DUE.is("cell(3, 0)", x.cell(3, 0), -1);
        DUE.is("cell(199, 0)", x.cell(199, 0), -1);
        DUE.is("cell(200, 0)", x.cell(200, 0), -1);
        DUE.is("cell(0, 3)", x.cell(0, 3), -1);
        for (int w : WILD) {
            DUE.is("cell(" + w + ", 0)", x.cell(w, 0), -1);
            DUE.is("cell(0, " + w + ")", x.cell(0, w), -1);
        }
        DUE.is("of a new one", new RegionRooms().cell(0, 0), -1);
    }

    private static void inRefused() {
        DOC.promise(16, "NoSuchElementException: no such ones.");
        RegionRooms x = loaded("fun main n; a is pair n n; b is pair a n; c is left b;", 3);
        DUE.noSuch("none yet", () -> x.in(0, 0));
        DUE.is("steps(2)", x.steps(2), 2);
        DUE.is("in(1, 0)", x.in(1, 0), 0);
        DUE.is("in(1, 1)", x.in(1, 1), 3);
        DUE.noSuch("in(2, 0)", () -> x.in(2, 0));
        DUE.noSuch("in(199, 1)", () -> x.in(199, 1));
        DUE.noSuch("in(200, 0)", () -> x.in(200, 0));
        DUE.noSuch("in(0, 2)", () -> x.in(0, 2));
        for (int w : WILD) {
            DUE.noSuch("in(" + w + ", 0)", () -> x.in(w, 0));
            DUE.noSuch("in(0, " + w + ")", () -> x.in(0, w));
        }
        DUE.is("steps(1)", x.steps(1), 1);
        DUE.noSuch("FREED", () -> x.in(1, 0));
        DUE.is("behind the end", x.in(0, 0), 3);
    }

    private static void gaveNothing() {
        DOC.promise(17, "1 a number, 2 a PAIR; 0: it has not ENDED.");
        RegionRooms x = DUE.with("fun main n; r is n;");
        DUE.is("a new one", new RegionRooms().gave(), 0);
        DUE.is("IDLE", x.gave(), 0);
        DUE.is("load()", Due.load(x, 1), true);
        DUE.is("it RUNS", x.gave(), 0);
        DUE.is("steps(1)", x.steps(1), 1);
        DUE.is("a number", x.gave(), 1);
        RegionRooms pair = loaded("fun main n; r is pair n n;", 1);
        DUE.is("steps(1)", pair.steps(1), 1);
        DUE.is("a PAIR", pair.gave(), 2);
        RegionRooms stopped = loaded("fun main n; o is 1; r is left n;", 1);
        DUE.is("steps(2)", stopped.steps(2), 2);
        DUE.is("STOPPED", stopped.gave(), 0);
    }

    private static void resultRefused() {
        DOC.promise(18, "NoSuchElementException: it has not ENDED.");
        RegionRooms x = DUE.with("fun main n; o is n; r is pair o n;");
        DUE.noSuch("a new one", () -> new RegionRooms().result());
        DUE.noSuch("IDLE", x::result);
        DUE.is("load()", Due.load(x, 1), true);
        DUE.noSuch("LOADED", x::result);
        DUE.is("steps(1)", x.steps(1), 1);
        DUE.noSuch("it RUNS", x::result);
        DUE.is("steps(1)", x.steps(1), 1);
        DUE.is("the CELL", x.result(), 0);
        RegionRooms stopped = loaded("fun main n; o is 1; r is left n;", 1);
        DUE.is("steps(2)", stopped.steps(2), 2);
        DUE.noSuch("STOPPED", stopped::result);
    }

    private static void roomRefused() {
        DOC.promise(19, "The REGION of ROOM k now (from 0, as they were made); NONE: no such one.");
        RegionRooms x = loaded("fun main n; a is pair n n; b is pair n n; c is left a; d is pair n n; e is left b; f is left d;", 1);
        DUE.is("none yet", x.room(0), -1);
        DUE.is("steps(2)", x.steps(2), 2);
        DUE.is("the first", x.room(0), 0);
        DUE.is("the second", x.room(1), 1);
        DUE.is("no third", x.room(2), -1);
        DUE.is("steps(2)", x.steps(2), 2);
        DUE.is("the first is now that of b", x.room(0), 1);
        DUE.is("the second that of d", x.room(1), 2);
        for (int w : WILD) {
            DUE.is("room(" + w + ")", x.room(w), -1);
        }
    }

    private static void roomfulRefused() {
        DOC.promise(20, "How many CELLS are in it; NONE: no such one.");
        RegionRooms x = loaded("fun main n; a is pair n n; b is pair n n; c is pick n a b;", 1);
        DUE.is("an empty one", x.roomful(0), 0);
        DUE.is("steps(2)", x.steps(2), 2);
        DUE.is("two", x.roomful(0), 2);
        DUE.is("no second", x.roomful(1), -1);
        for (int w : WILD) {
            DUE.is("roomful(" + w + ")", x.roomful(w), -1);
        }
        DUE.is("of a new one", new RegionRooms().roomful(0), -1);
    }

    private static void reachedNone() {
        DOC.promise(21, "REACHED: how many CELLS.");
        DUE.is("a new one", new RegionRooms().reached(), 0);
        RegionRooms x = DUE.with(TWO);
        DUE.is("IDLE", x.reached(), 0);
        DUE.is("load()", Due.load(x, 0), true);
        DUE.is("no CELLS", x.reached(), 0);
        DUE.is("steps(1)", x.steps(1), 1);
        DUE.is("one, by a alone", x.reached(), 1);
    }

    private static void isReachedRefused() {
        DOC.promise(22, "Whether a CELL is (1, 0); NONE: no such CELL.");
        RegionRooms x = loaded("fun main n; a is pair n n; b is pair n n; c is pick n a b;", 1);
        DUE.is("none yet", x.isReached(0), -1);
        DUE.is("steps(3)", x.steps(3), 3);
        DUE.is("the one", x.isReached(0), 1);
        DUE.is("the other", x.isReached(1), 0);
        DUE.is("isReached(2)", x.isReached(2), -1);
        DUE.is("isReached(199)", x.isReached(199), -1);
        DUE.is("isReached(200)", x.isReached(200), -1);
        for (int w : WILD) {
            DUE.is("isReached(" + w + ")", x.isReached(w), -1);
        }
    }

    private static void dragNone() {
        DOC.promise(23, "DRAG: how many CELLS.");
        DUE.is("a new one", new RegionRooms().drag(), 0);
        RegionRooms x = DUE.with("fun main n; a is pair n n; b is pair n n; c is pick n a b;");
        DUE.is("IDLE", x.drag(), 0);
        DUE.is("load()", Due.load(x, 0), true);
        DUE.is("steps(2)", x.steps(2), 2);
        DUE.is("all are REACHED", x.drag(), 0);
        DUE.is("steps(1)", x.steps(1), 1);
        DUE.is("one is not", x.drag(), 1);
    }

    private static void runRefused() {
        DOC.promise(24, "how it is then (2 it has ENDED, 3 it is STOPPED); NONE: not as told, there are no FUNS.");
        RegionRooms none = new RegionRooms();
        DUE.is("no FUNS", none.run(), -1);
        DUE.is("no FUNS, a byte", Due.run(none, 1), -1);
        RegionRooms x = DUE.with("fun main n; r is n;");
        DUE.is("too few", x.run(), -1);
        DUE.is("too many", Due.run(x, 1, 2), -1);
        DUE.is("ENDED", Due.run(x, 1), 2);
        DUE.is("STOPPED", Due.run(DUE.with("fun main n; r is left n;"), 1), 3);
    }

    private static void ranRefused() {
        DOC.promise(25, "NONE: another what, or ahead of any.");
        RegionRooms x = DUE.with("fun main n; r is n;");
        for (int what = 0; what <= 7; what++) {
            DUE.is("ran(" + what + ") ahead of any", x.ran(what), -1);
        }
        DUE.is("run() that is NONE", x.run(), -1);
        DUE.is("ran(0) is still ahead of any", x.ran(0), -1);
        DUE.is("run()", Due.run(x, 1), 2);
        for (int w : WILD) {
            DUE.is("ran(" + w + ")", x.ran(w), -1);
        }
        DUE.is("ran(8)", x.ran(8), -1);
        DUE.is("ran(7)", x.ran(7), 0);
        DUE.is("run() that is NONE", x.run(), -1);
        DUE.is("the latest that was not", x.ran(6), 1);
    }

    private static void ranElse() {
        DOC.promise(25, "4 why it STOPPED (0), 5 what it gave (1 a number, 2 a PAIR, 0: it has not ENDED), 6 the number (0 else)");
        RegionRooms x = DUE.with("fun main n; p is pair n n; o is 3; r is pick o p n;");
        DUE.is("run()", Due.run(x, 9), 2);
        DUE.is("why", x.ran(4), 0);
        DUE.is("a PAIR", x.ran(5), 2);
        DUE.is("no number", x.ran(6), 0);
        RegionRooms y = DUE.with("fun main n; p is sum n n; r is left n;");
        DUE.is("run()", Due.run(y, 9), 3);
        DUE.is("why", y.ran(4), 1);
        DUE.is("nothing", y.ran(5), 0);
        DUE.is("no number", y.ran(6), 0);
        RegionRooms z = DUE.with("fun main n; r is sum n n;");
        DUE.is("run()", Due.run(z, 9), 2);
        DUE.is("a number", z.ran(5), 1);
        DUE.is("that", z.ran(6), 18);
    }

    private static void ranLastStep() {
        DOC.promise(25, "7 the greatest DRAG there was behind a STEP (the last one, too).");
        RegionRooms last = DUE.with("fun main n; a is pair n n; b is pair n n; c is pick n a b;");
        DUE.is("run()", Due.run(last, 1), 2);
        DUE.is("behind the last alone", last.ran(7), 1);
        RegionRooms middle = DUE.with("fun f n; a is pair n n; b is pair n n; c is pick n a b; fun main n; p is call f n; q is left p;");
        DUE.is("run()", Due.run(middle, 1), 2);
        DUE.is("CELLS then", middle.ran(2), 0);
        DUE.is("behind one ahead", middle.ran(7), 1);
    }

    private static void oddsOfSeeds() {
        DOC.promise(26, "Of n (1 to 20) seeds x, x and 1, ..");
        RegionRooms x = DUE.with("fun f n; r is left n; fun main n; k is 5; a is less n k; z is 0; r is when a f z else z;");
        int all = 0;
        for (int i = 0; i < 20; i++) {
            all += x.odds(1, Integer.MAX_VALUE - 9 + i);
        }
        DUE.is("20 seeds, wrapping", x.odds(20, Integer.MAX_VALUE - 9), all);
        DUE.is("some of them", all > 0 && all < 20, true);
        DUE.is("two", x.odds(2, -1), x.odds(1, -1) + x.odds(1, 0));
    }

    private static void oddsRefused() {
        DOC.promise(26, "NONE: not as told, there are no FUNS.");
        DUE.is("no FUNS", new RegionRooms().odds(1, 1), -1);
        RegionRooms x = DUE.with("fun main n; r is n;");
        DUE.is("odds(0, 1)", x.odds(0, 1), -1);
        DUE.is("odds(1, 1)", x.odds(1, 1), 1);
        DUE.is("odds(20, 1)", x.odds(20, 1), 20);
        DUE.is("odds(21, 1)", x.odds(21, 1), -1);
        for (int w : WILD) {
            DUE.is("odds(" + w + ", 1)", x.odds(w, 1), -1);
            DUE.is("any seed: " + w, x.odds(1, w), 1);
        }
    }

    private static void undoWhatCounts() {
        DOC.promise(27, "The latest of load() that was true, steps() above 0 is undone, the MACHINE is as it was ahead (IDLE, it may be)");
        RegionRooms x = DUE.with(TWO);
        DUE.is("steps() that are 0", x.steps(1), 0);
        DUE.is("load()", Due.load(x, 5), true);
        DUE.is("load() that is false", x.load(), false);
        DUE.is("steps(500)", x.steps(500), 5);
        DUE.is("steps() that are 0", x.steps(1), 0);
        DUE.is("steps() that are NONE", x.steps(501), -1);
        DUE.is("undo() of steps()", x.undo(), 1);
        DUE.is("LOADED", 10 * x.now(0) + x.now(8), 10);
        DUE.is("undo() of load()", x.undo(), 0);
        DUE.is("IDLE", x.now(0), 0);
        DUE.is("no FRAME", x.now(2), 0);
        DUE.is("no ROOM", x.now(6), 0);
        DUE.is("steps() of an IDLE one", x.steps(1), 0);
    }

    private static void undoEight() {
        DOC.promise(27, "how many more can be (8 at most are kept)");
        for (int kept = 1; kept <= 10; kept++) {
            RegionRooms x = loaded(LOOP, 1);
            for (int i = 1; i < kept; i++) {
                DUE.is("steps(1)", x.steps(1), 1);
            }
            DUE.is("undo() of " + kept, x.undo(), Math.min(kept, 8) - 1);
        }
        RegionRooms x = loaded(LOOP, 1);
        for (int i = 0; i < 9; i++) {
            DUE.is("load()", Due.load(x, 10 + i), true);
        }
        for (int i = 7; i >= 0; i--) {
            DUE.is("undo()", x.undo(), i);
            DUE.is("its number", x.value(0, 0), 10 + i);
        }
        DUE.is("none is", x.undo(), -1);
        DUE.is("it stays", x.value(0, 0), 10);
    }

    private static void undoNone() {
        DOC.promise(27, "NONE: none is.");
        DUE.is("a new one", new RegionRooms().undo(), -1);
        RegionRooms x = loaded(LOOP, 1);
        DUE.is("undo()", x.undo(), 0);
        DUE.is("none is", x.undo(), -1);
        DUE.is("IDLE", x.now(0), 0);
        DUE.is("load()", Due.load(x, 1), true);
        DUE.is("a new PROGRAM", Due.program(x, LOOP), 4);
        DUE.is("none is", x.undo(), -1);
    }

    private static void sentenceCounts() {
        DOC.promise(28, "how many ONES (each not, bracket and other one)");
        RegionRooms x = DUE.with(TWO);
        DUE.is("one", Due.sentence(x, "live"), 1);
        DUE.is("a not", Due.sentence(x, "not live"), 2);
        DUE.is("a bracket", Due.sentence(x, "(live)"), 2);
        DUE.is("'and', 'or' are none", Due.sentence(x, "live and live or live"), 3);
        DUE.is("all of them", Due.sentence(x, "not (live and not cells<1 or (owned f))"), 7);
    }

    private static void sentenceRefused() {
        DOC.promise(28, "-1 less the place of a FAULT: it stays.");
        RegionRooms x = DUE.with(TWO);
        DUE.is("a FAULT at 0 ahead of any", Due.sentence(x, ""), -1);
        DUE.is("there is none still", x.said(-1), -1);
        DUE.is("sentence()", Due.sentence(x, "number=1"), 1);
        DUE.is("a FAULT at 0", Due.sentence(x, ""), -1);
        DUE.is("a FAULT at 200", Due.sentence(x, "live" + " ".repeat(197)), -201);
        DUE.is("a FAULT behind a ONE", Due.sentence(x, "live live"), -6);
        DUE.is("it stays", 10 * x.said(-1) + x.said(0), 11);
        DUE.is("the PROGRAM, too", x.count(0), 2);
    }

    private static void saidRefused() {
        DOC.promise(29, "how many (k NONE), or the k-th. NONE: there is no SENTENCE, none such.");
        RegionRooms x = DUE.with(TWO);
        DUE.is("no SENTENCE: how many", x.said(-1), -1);
        DUE.is("no SENTENCE: the first", x.said(0), -1);
        DUE.is("sentence()", Due.sentence(x, "not live"), 2);
        DUE.is("how many", x.said(RegionRooms.NONE), 2);
        DUE.is("the first", x.said(0), 0);
        DUE.is("the last", x.said(1), 1);
        DUE.is("one more", x.said(2), -1);
        for (int w : WILD) {
            if (w != -1) {
                DUE.is("said(" + w + ")", x.said(w), -1);
            }
        }
        DUE.is("sentence()", Due.sentence(x, "live"), 1);
        DUE.is("of none: how many", x.said(-1), 0);
        DUE.is("of none: the first", x.said(0), -1);
    }

    private static void imageRefused() {
        DOC.promise(30, "kept in place k (0, 1): true; false: no such one.");
        RegionRooms x = new RegionRooms();
        DUE.is("image(0)", x.image(0), true);
        DUE.is("image(1)", x.image(1), true);
        DUE.is("image(2)", x.image(2), false);
        for (int w : WILD) {
            DUE.is("image(" + w + ")", x.image(w), false);
        }
    }

    private static void imageKeeps() {
        DOC.promise(30, "PROGRAM, the MACHINE with all that it has, and the SENTENCE are kept");
        RegionRooms x = loaded(TWO, 3);
        DUE.is("sentence()", Due.sentence(x, "live"), 1);
        DUE.is("steps(4)", x.steps(4), 4);
        DUE.is("image(1)", x.image(1), true);
        DUE.is("it goes on as if there were none", x.steps(500), 1);
        DUE.is("so does undo()", x.undo(), 2);
        DUE.is("a PROGRAM without FUNS", x.program(), 0);
        DUE.is("image(0) of that", x.image(0), true);
        DUE.is("restore(1)", x.restore(1), true);
        DUE.is("FUNS", x.count(0), 2);
        int[] now = {1, 0, 1, 0, 1, 1, 1, 1, 4, 2, 1};
        for (int what = 0; what < now.length; what++) {
            DUE.is("now(" + what + ")", x.now(what), now[what]);
        }
        DUE.is("its VALUE", x.value(0, 0), 3);
        DUE.is("its CELL", x.in(0, 0), 3);
        DUE.is("its ROOM", x.room(0), 0);
        DUE.is("the SENTENCE", 10 * x.said(-1) + x.said(0), 10);
        DUE.is("restore(0)", x.restore(0), true);
        DUE.is("no FUNS", x.count(0), 0);
        DUE.is("no SENTENCE", x.said(-1), -1);
    }

    private static void restoreRefused() {
        DOC.promise(31, "true; false: no such one, or nothing is kept there.");
        RegionRooms x = loaded(TWO, 3);
        DUE.is("restore(0)", x.restore(0), false);
        DUE.is("restore(1)", x.restore(1), false);
        DUE.is("image(0)", x.image(0), true);
        DUE.is("restore(1) still", x.restore(1), false);
        DUE.is("restore(2)", x.restore(2), false);
        for (int w : WILD) {
            DUE.is("restore(" + w + ")", x.restore(w), false);
        }
        DUE.is("it can be undone still", x.undo(), 0);
        DUE.is("restore(0)", x.restore(0), true);
        DUE.is("restore(0) twice", x.restore(0), true);
        DUE.is("LOADED", x.now(0), 1);
    }

    private static void restoreStays() {
        DOC.promise(31, "(the tape, and what other calls told last, stays; nothing can be undone)");
        RegionRooms x = loaded(TWO, 3);
        DUE.is("image(0)", x.image(0), true);
        DUE.is("run()", Due.run(x, 9), 2);
        DUE.is("a FAULT", Due.sentence(x, "owned g"), -7);
        DUE.is("steps(1)", x.steps(1), 1);
        Due.feed(x, "fun f; a is 1;");
        DUE.is("restore(0)", x.restore(0), true);
        DUE.is("the tape", x.count(4), 14);
        DUE.is("fault()", x.fault(), 3);
        DUE.is("ran(6)", x.ran(6), 9);
        DUE.is("nothing can be undone", x.undo(), -1);
        DUE.is("what comes can", x.steps(1), 1);
        DUE.is("undo()", x.undo(), 0);
        DUE.is("LOADED, not IDLE", x.now(0), 1);
        DUE.is("the tape's bytes", x.program(), 2);
    }

    private static void countRefused() {
        DOC.promise(32, "NONE for another what.");
        RegionRooms x = DUE.with(TWO);
        int[] count = {2, 5, 2, 2, 0};
        for (int what = 0; what < count.length; what++) {
            DUE.is("count(" + what + ")", x.count(what), count[what]);
        }
        DUE.is("count(5)", x.count(5), -1);
        for (int w : WILD) {
            DUE.is("count(" + w + ")", x.count(w), -1);
        }
    }

    private static void manyCalls() {
        DOC.of("What it is", "An object is used for at most 512 calls after it has been made");
        RegionRooms x = loaded(LOOP, 1);
        // feed(), end() and program() once, the same for load(): seven calls were made
        for (int i = 7; i < 511; i++) {
            DUE.is("call " + i, i % 3 == 0 ? x.undo() >= 0 : x.steps(1) == 1, true);
        }
        DUE.is("the 512th call", x.now(0), 1);
    }
}
