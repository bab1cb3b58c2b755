/** Promises 5, 28 and 29. */
public final class SentenceTest {
    private static final Due DUE = new Due("SentenceTest");
    /** Four REGIONS: 0 made by make and OWNED by main, 1 of f alone (FINITE), 2 and 3 OUTER of MAIN. */
    private static final String PROGRAM = "fun make n; p is pair n n; fun f n; q is pair n n; r is left q; "
        + "fun main n; a is call make n; b is left a; c is call f n; d is pair b c; e is pair d d;";

    public static void main(String[] args) {
        regions();
        ones();
        faults();
        withoutFuns();
        limits();
        lengths();
        saidOf();
        binding();
        measures();
        stays();
        DUE.end();
    }

    private static void regions() {
        RegionRooms x = DUE.with(PROGRAM);
        DUE.is("REGIONS", x.count(2), 4);
        DUE.is("FINITE", x.count(3), 1);
        DUE.is("of make", x.points(0, 1), 0);
        DUE.is("of f", x.points(1, 1), 1);
        DUE.is("of d", x.points(2, 4), 2);
        DUE.is("of e", x.points(2, 5), 3);
    }

    private static void good(String text, int ones) {
        RegionRooms x = DUE.with(PROGRAM);
        DUE.is("said(-1) without one", x.said(-1), -1);
        DUE.is("sentence() " + text, Due.sentence(x, text), ones);
        DUE.is("fault() " + text, x.fault(), 0);
    }

    private static void bad(String text, int kind, int place) {
        RegionRooms x = DUE.with(PROGRAM);
        DUE.is("sentence() " + text, Due.sentence(x, text), -1 - place);
        DUE.is("fault() " + text, x.fault(), kind);
        DUE.is("said(-1) behind " + text, x.said(-1), -1);
    }

    private static void ones() {
        good("finite", 1);
        good(" outer\n", 1);
        good("live", 1);
        good("owned main", 1);
        good("filled make", 1);
        good("cells<0", 1);
        good("rooms = 999", 1);
        good("number >007", 1);
        good("not finite", 2);
        good("(finite)", 2);
        good("((finite))", 3);
        good("not(finite)", 3);
        good("not not not live", 4);
        good("finite and live or outer and owned f or filled f", 5);
        good("(finite or live)and(outer or cells>3)", 6);
    }

    private static void faults() {
        bad("", 1, 0);
        bad("  ", 1, 2);
        bad("finite finite", 1, 7);
        bad("finite;", 1, 6);
        bad("finite)", 1, 6);
        bad("(finite", 1, 7);
        bad("(finite ", 1, 8);
        bad("()", 1, 1);
        bad("not", 1, 3);
        bad("and", 1, 0);
        bad("finite and", 1, 10);
        bad("finite or or live", 1, 10);
        bad("finite not live", 1, 7);
        bad("fun", 1, 0);
        bad("pair", 1, 0);
        bad("main", 1, 0);
        bad("7", 1, 0);
        bad("owned", 1, 5);
        bad("owned owned", 1, 6);
        bad("owned 1", 1, 6);
        bad("owned g", 3, 6);
        bad("filled mains", 3, 7);
        bad("filled (main)", 1, 7);
        bad("owned eightlet", 1, 6);
        bad("cells", 1, 5);
        bad("cells 3", 1, 6);
        bad("cells <", 1, 7);
        bad("cells < main", 1, 8);
        bad("cells <= 3", 1, 7);
        bad("cells (3)", 1, 6);
        bad("cells ; 3", 1, 6);
        bad("number < 1000", 1, 9);
        bad("rooms < -1", 1, 8);
        bad("finite .", 1, 7);
        bad("Finite", 1, 0);
        bad("finite and owned x or )", 3, 17);
    }

    private static void withoutFuns() {
        RegionRooms x = new RegionRooms();
        DUE.is("sentence() without FUNS", Due.sentence(x, "finite or live or outer"), 3);
        DUE.is("said of none", x.said(-1), 0);
        DUE.is("said(0)", x.said(0), -1);
        DUE.is("owned f without FUNS", Due.sentence(x, "owned f"), -7);
        DUE.is("fault()", x.fault(), 3);
    }

    private static String chain(int ones) {
        return "live" + " or live".repeat(ones - 1);
    }

    private static void limits() {
        good(chain(20), 20);
        bad(chain(21), 4, chain(20).length() + 4);
        String ands = chain(20).replace("or", "and");
        good(ands, 20);
        bad(ands + " and live", 4, ands.length() + 5);
        bad(chain(20) + " or ;", 1, chain(20).length() + 4);
        bad(chain(20) + " or (", 4, chain(20).length() + 4);
        bad(chain(20) + " or not", 4, chain(20).length() + 4);
        bad(chain(20) + " or owned g", 4, chain(20).length() + 4);
        good("not ".repeat(7) + "live", 8);
        bad("not ".repeat(8) + "live", 4, 32);
        bad("not ".repeat(8) + "?", 1, 32);
        good("(((((((live)))))))", 8);
        bad("((((((((live))))))))", 4, 8);
        bad("(((((((((live)))))))))", 4, 8);
        good("not (not (not (not live or live) and live))", 10);
        good("(((((((live or live)" + "or live)".repeat(6), 15);
    }

    private static void lengths() {
        for (int size : new int[] {199, 200, 201, 940}) {
            // as many TOKENS as bytes
            bad("(".repeat(size), 4, 8);
            bad(")".repeat(size), 1, 0);
        }
        RegionRooms cut = DUE.with(PROGRAM);
        Due.feed(cut, "finites");
        DUE.is("end(6)", cut.end(6), true);
        DUE.is("what was cut off is not read", cut.sentence(), 1);
        String blanks = " ".repeat(194);
        good("finite" + blanks, 1);
        bad("finite" + blanks + " ", 1, 200);
        bad("finite ?" + blanks, 1, 7);
        bad(" ".repeat(197) + "finite", 1, 200);
        bad(" ".repeat(197) + "finites", 1, 197);
        bad(" ".repeat(197) + "not finite", 1, 200);
        bad(" ".repeat(199) + "(" + "?", 1, 200);
        bad("owned" + " ".repeat(191) + "makes", 3, 196);
        bad("owned" + " ".repeat(191) + "make ", 1, 200);
    }

    private static void says(RegionRooms x, String text, int... want) {
        DUE.is("sentence() of " + text + " is good", Due.sentence(x, text) > 0, true);
        DUE.is("how many: " + text, x.said(-1), want.length);
        for (int k = 0; k < want.length; k++) {
            DUE.is("said(" + k + "): " + text, x.said(k), want[k]);
        }
        DUE.is("said(one more): " + text, x.said(want.length), -1);
        DUE.is("said(-2): " + text, x.said(-2), -1);
        DUE.is("said(MAX): " + text, x.said(Integer.MAX_VALUE), -1);
        DUE.is("said(MIN): " + text, x.said(Integer.MIN_VALUE), -1);
    }

    private static void saidOf() {
        RegionRooms x = DUE.with(PROGRAM);
        says(x, "finite", 1);
        says(x, "outer", 2, 3);
        says(x, "live");
        says(x, "owned main", 0);
        says(x, "owned f", 1);
        says(x, "owned make");
        says(x, "filled make", 0);
        says(x, "filled f", 1);
        says(x, "filled main", 2, 3);
        says(x, "number<2", 0, 1);
        says(x, "number=2", 2);
        says(x, "number>2", 3);
        says(x, "not finite", 0, 2, 3);
        says(x, "cells=0", 0, 1, 2, 3);
        says(x, "rooms>0");
        RegionRooms alone = DUE.with("fun main n; p is pair n n; q is left p; r is pair q q;");
        says(alone, "outer", 1);
        says(alone, "owned main", 0);
        says(alone, "finite or outer", 0, 1);
    }

    /** 'and' holds its parts closer than 'or' does, 'not' closer than both. */
    private static void binding() {
        RegionRooms x = DUE.with(PROGRAM);
        says(x, "number=0 or number=1 and number=2", 0);
        says(x, "(number=0 or number=1) and number=1", 1);
        says(x, "number=1 and number=2 or number=0", 0);
        says(x, "number=1 and (number=2 or number=1)", 1);
        says(x, "not number=0 and number<2", 1);
        says(x, "not (number=0 and number<2)", 1, 2, 3);
        says(x, "not number=0 or number=0", 0, 1, 2, 3);
        says(x, "not (number=0 or number=3)", 1, 2);
        says(x, "not not number=3", 3);
        says(x, "live or ".repeat(19) + "number=3", 3);
        says(x, "number=3" + " and not live".repeat(9), 3);
        says(x, "number<1 or number>2 and not finite or outer and not number=3", 0, 2, 3);
    }

    /** They are of the MACHINE as it is when said() is called. */
    private static void measures() {
        RegionRooms x = DUE.with(PROGRAM);
        DUE.is("sentence()", Due.sentence(x, "live and cells>0"), 2);
        DUE.is("IDLE", x.said(-1), 0);
        DUE.is("load()", Due.load(x, 5), true);
        DUE.is("LOADED: ROOMS without CELLS", x.said(-1), 0);
        DUE.is("steps(2)", x.steps(2), 2);
        DUE.is("made by make", x.said(0), 0);
        DUE.is("steps(3)", x.steps(3), 3);
        DUE.is("that one is freed, f has laid its own", x.said(0), 1);
        DUE.is("that one alone", x.said(-1), 1);
        says(x, "live", 1, 2, 3);
        says(x, "rooms=1", 1, 2, 3);
        says(x, "rooms<1", 0);
        DUE.is("steps(500)", x.steps(500), 3);
        says(x, "cells=1", 2, 3);
        says(x, "cells<1", 0, 1);
        RegionRooms y = DUE.with("fun f i n; o is 1; j is sum i o; p is pair i i; q is pair p p; c is less j n; "
            + "r is when c f j n else j; s is left q; t is 1; fun main n; z is 0; r is call f z n;");
        DUE.is("load()", Due.load(y, 4), true);
        DUE.is("steps(23)", y.steps(23), 23);
        says(y, "rooms=4", 0);
        says(y, "rooms=3", 1);
        says(y, "cells=4", 0);
        says(y, "cells>2", 0, 1);
        says(y, "cells<4", 1);
    }

    private static void stays() {
        RegionRooms x = DUE.with(PROGRAM);
        says(x, "number=3", 3);
        DUE.is("one with a FAULT", Due.sentence(x, "finite or"), -10);
        DUE.is("fault()", x.fault(), 1);
        DUE.is("the SENTENCE stays", x.said(0), 3);
        DUE.is("a PROGRAM with a FAULT", Due.program(x, "x"), -1);
        DUE.is("fault() of the latest", x.fault(), 4);
        DUE.is("the SENTENCE stays", x.said(0), 3);
        DUE.is("another one", Due.sentence(x, "number=2"), 1);
        DUE.is("fault() of that", x.fault(), 0);
        DUE.is("said then", x.said(0), 2);
        DUE.is("a new PROGRAM", Due.program(x, PROGRAM), 11);
        DUE.is("no SENTENCE", x.said(-1), -1);
        DUE.is("no SENTENCE", x.said(0), -1);
    }
}
