/** Promises 6, 7, 8 (what is told of a PROGRAM), 9 and 32. */
public final class RegionTest {
    private static final Due DUE = new Due("RegionTest");

    public static void main(String[] args) {
        nested();
        circle();
        numbering();
        withoutPair();
        throughCall();
        throughWhen();
        sameByVarAndPick();
        mergedSides();
        finiteOnes();
        spans();
        bareSpan();
        calls();
        leaving();
        mostRegions();
        oneWithItsSide();
        deepAheadOfTheNext();
        newProgramForgets();
        wrongOnes();
        DUE.end();
    }

    private static void points(RegionRooms x, int f, int... want) {
        for (int v = 0; v < want.length; v++) {
            DUE.is("points(" + f + ", " + v + ")", x.points(f, v), want[v]);
        }
        DUE.is("points(" + f + ", one more)", x.points(f, want.length), -1);
    }

    private static void region(RegionRooms x, int r, int... want) {
        for (int what = 0; what < want.length; what++) {
            DUE.is("region(" + r + ", " + what + ")", x.region(r, what), want[what]);
        }
    }

    private static void fun(RegionRooms x, int f, int... want) {
        for (int what = 0; what < want.length; what++) {
            DUE.is("fun(" + f + ", " + what + ")", x.fun(f, what), want[what]);
        }
    }

    private static void span(RegionRooms x, int f, int r, int first, int last) {
        DUE.is("span(" + f + ", " + r + ", 0)", x.span(f, r, 0), first);
        DUE.is("span(" + f + ", " + r + ", 1)", x.span(f, r, 1), last);
    }

    private static void count(RegionRooms x, int... want) {
        for (int what = 0; what < want.length; what++) {
            DUE.is("count(" + what + ")", x.count(what), want[what]);
        }
    }

    private static void nested() {
        RegionRooms x = DUE.with("fun main n; a is pair n n; b is pair a a; c is left b; d is left c;");
        points(x, 0, -1, 0, 1, 0, -1);
        region(x, 0, -1, -1, 1, 1, 1, 0, 0);
        region(x, 1, 0, 0, 1, 1, 1, 0, 0);
        fun(x, 0, 1, 4, 0, 0, 3, 0);
        span(x, 0, 0, 0, 3);
        span(x, 0, 1, 1, 2);
        count(x, 1, 4, 2, 2, 0);
    }

    private static void circle() {
        RegionRooms x = DUE.with("fun main n; a is pair n n; b is pick n a n;");
        points(x, 0, 0, 0, 0);
        region(x, 0, 0, 0, 0, 1, 0);
        fun(x, 0, 1, 2, 0, 1, 0, 0);
        span(x, 0, 0, -1, -1);
        count(x, 1, 2, 1, 0);
    }

    /** Down the LEFT side of a REGION, then down its RIGHT one, ahead of the next VAR. */
    private static void numbering() {
        RegionRooms x = DUE.with("fun f p; l is left p; r is right p; s is right l; t is left s; u is right r;");
        points(x, 0, 0, 1, 3, 2, -1, -1);
        region(x, 0, 1, 3, 0, 0, 0);
        region(x, 1, -1, 2, 0, 0, 0);
        region(x, 2, -1, -1, 0, 0, 0);
        region(x, 3, -1, -1, 0, 0, 0);
        fun(x, 0, 1, 5, 0, 15, 0, 0);
        RegionRooms y = DUE.with("fun f; z is 0; a is pair z z; b is z; fun g; z is 0; d is pair z z; e is pair d z; c is z;");
        points(y, 0, -1, 0, -1);
        points(y, 1, -1, 1, 2, -1);
        fun(y, 0, 0, 3, 0, 0, 1, 0);
        fun(y, 1, 0, 4, 0, 0, 6, 0);
        span(y, 1, 1, 1, 2);
        span(y, 1, 2, 2, 2);
        region(y, 0, -1, -1, 1, 1, 1);
        region(y, 2, 1, -1, 2, 2, 1);
    }

    private static void withoutPair() {
        RegionRooms x = DUE.with("fun f p; a is left p; b is 1; fun main n; c is 0; d is call f c;");
        points(x, 0, 0, -1, -1);
        points(x, 1, -1, 0, -1);
        region(x, 0, -1, -1, 2, 0, 0);
        fun(x, 0, 1, 2, 0, 1, 0, 0);
        fun(x, 1, 1, 2, 1, 0, 1, 0);
        span(x, 1, 0, 0, 1);
        count(x, 2, 4, 1, 0);
    }

    private static void throughCall() {
        RegionRooms x = DUE.with("fun id a; b is a; fun main n; p is pair n n; q is call id p; r is left q;");
        points(x, 0, 0, 0);
        points(x, 1, -1, 0, 0, -1);
        region(x, 0, -1, -1, 2, 2, 1);
        fun(x, 0, 1, 1, 0, 1, 0, 0);
        fun(x, 1, 1, 3, 1, 0, 1, 0);
        span(x, 1, 0, 0, 2);
        span(x, 0, 0, -1, -1);
        // one FUN for all that call it: what they give it is the same
        RegionRooms y = DUE.with("fun id a; b is a; fun main n; p is pair n n; q is call id p; r is call id n;");
        points(y, 0, 0, 0);
        points(y, 1, 0, 0, 0, 0);
        region(y, 0, 0, 0, 0, 2, 0);
    }

    private static void throughWhen() {
        RegionRooms x = DUE.with("fun f a b; c is 1; fun main n; z is 0; p is pair n n; q is pair z p; "
            + "r is when n f p q else z; s is 1;");
        points(x, 0, 0, 1, -1);
        points(x, 1, -1, -1, 0, 1, -1, -1);
        region(x, 1, -1, 0, 2, 2, 1);
        RegionRooms y = DUE.with("fun f a; c is a; fun main n; z is 0; p is pair n n; r is when n f z else p; s is 1;");
        points(y, 0, 0, 0);
        points(y, 1, -1, 0, 0, 0, -1);
        span(y, 1, 0, 0, 2);
    }

    private static void sameByVarAndPick() {
        RegionRooms x = DUE.with("fun main c; a is 0; b is a; d is pair c c; e is pick c b d; g is 1;");
        points(x, 0, -1, 0, 0, 0, 0, -1);
        span(x, 0, 0, 0, 3);
        fun(x, 0, 1, 5, 0, 0, 1, 0);
        // 'sum' and 'less' make nothing the same, nor does what 'pick' and 'when' look at
        RegionRooms y = DUE.with("fun f a; b is 1; fun main n; p is pair n n; s is sum p n; t is less n p; u is pick p n n; "
            + "v is when p f n else n;");
        points(y, 0, -1, -1);
        points(y, 1, -1, 0, -1, -1, -1, -1);
        span(y, 1, 0, 0, 4);
        fun(y, 1, 1, 5, 1, 0, 1, 0);
    }

    /** Two REGIONS that become one make their sides the same, too. */
    private static void mergedSides() {
        RegionRooms x = DUE.with("fun main n; z is 0; a is pair n z; b is pair a z; c is pair z n; d is pair c z; "
            + "e is pick n b d; o is 1;");
        points(x, 0, -1, -1, 0, 1, 0, 1, 1, -1);
        count(x, 1, 7, 2, 2);
        region(x, 0, -1, -1, 1, 1, 1);
        region(x, 1, 0, -1, 1, 1, 1);
        span(x, 0, 0, 1, 5);
        span(x, 0, 1, 2, 5);
    }

    private static void finiteOnes() {
        RegionRooms two = DUE.with("fun main n; a is pair n n; b is pair n n; c is pick n a b; d is left c;");
        DUE.is("two pairs of one FUN", two.region(0, 4), 1);
        RegionRooms outer = DUE.with("fun main n; a is pair n n;");
        DUE.is("OUTER of MAIN", outer.region(0, 4), 0);
        RegionRooms other = DUE.with("fun f n; a is pair n n; fun main n; b is call f n; c is left b;");
        region(other, 0, -1, -1, 2, 1, 0);
        RegionRooms both = DUE.with("fun f n; a is pair n n; fun main n; b is call f n; c is pair n n; d is pick n b c; e is 1;");
        region(both, 0, -1, -1, 2, 3, 0);
        // f OWNS it, and so does main, whose 'pair' lays nothing there
        RegionRooms owners = DUE.with("fun h l; o is 1; fun f n; a is pair n n; b is call h a; "
            + "fun main n; z is 0; c is call h z; d is call f n;");
        region(owners, 0, -1, -1, 6, 2, 1);
        DUE.is("FINITE ones", owners.count(3), 1);
        // OUTER of MAIN, but OWNED by the FUN that alone fills it
        RegionRooms mains = DUE.with("fun h l; o is 1; fun f n; a is pair n n; b is call h a; "
            + "fun main n m; c is call h m; d is call f n;");
        region(mains, 0, -1, -1, 2, 2, 0);
        fun(mains, 2, 2, 2, 3, 1, 0, 1);
    }

    private static void spans() {
        RegionRooms x = DUE.with("fun main n; o is 1; p is pair n o; q is 2; c is pick p o o; d is 3;");
        span(x, 0, 0, 1, 3);
        RegionRooms y = DUE.with("fun f; r is 1; fun main n; o is 1; p is pair n o; q is 2; c is when p f else o; d is 3;");
        span(y, 1, 0, 1, 3);
    }

    private static void bareSpan() {
        RegionRooms x = DUE.with("fun main n; a is pair n n; b is 1;");
        span(x, 0, 0, 0, 0);
        region(x, 0, -1, -1, 1, 1, 1);
    }

    private static void calls() {
        RegionRooms x = DUE.with("fun a; x is 1; fun b; x is call a; y is call b; fun c n; x is when n b else n; "
            + "y is when n c n else n; z is 1; fun d; x is 1;");
        DUE.is("calls none", x.fun(0, 2), 0);
        DUE.is("calls a and itself", x.fun(1, 2), 3);
        DUE.is("calls b and itself", x.fun(2, 2), 6);
        DUE.is("main calls none", x.fun(3, 2), 0);
        count(x, 4, 7, 0, 0, 0);
    }

    private static void leaving() {
        RegionRooms x = DUE.with("fun f n; r is call f n; fun g n; r is when n f n else n; fun h n; p is pair n n; "
            + "s is left p; r is call f s; fun i n; p is pair n n; r is when n f n else n; t is 1; "
            + "fun main n; r is call f n; s is r;");
        DUE.is("a last 'call'", x.fun(0, 5), 1);
        DUE.is("a last 'when'", x.fun(1, 5), 1);
        DUE.is("a SPAN that ends ahead", x.fun(2, 5), 1);
        DUE.is("no last call", x.fun(3, 5), 0);
        DUE.is("not the last LINE", x.fun(4, 5), 0);
        RegionRooms y = DUE.with("fun f n; o is 1; fun main n; p is pair n n; r is call f p;");
        DUE.is("a SPAN that ends with it", y.fun(1, 5), 0);
        RegionRooms z = DUE.with("fun f n; o is pair n n; p is 1; fun main n; p is pair n n; r is when n f p else n;");
        DUE.is("a SPAN that ends with a 'when'", z.fun(1, 5), 0);
    }

    private static String name(int i) {
        return String.valueOf((char) ('a' + i));
    }

    /** 24 LINES make 24 REGIONS at most, one within another or two chains that become one. */
    private static void mostRegions() {
        StringBuilder pairs = new StringBuilder("fun main a;");
        StringBuilder sides = new StringBuilder("fun main a;");
        for (int i = 1; i <= 24; i++) {
            pairs.append(name(i)).append(" is pair ").append(name(i - 1)).append(' ').append(name(0)).append(';');
            sides.append(name(i)).append(i % 2 == 0 ? " is left " : " is right ").append(name(i - 1)).append(';');
        }
        RegionRooms x = DUE.with(pairs.toString());
        RegionRooms y = DUE.with(sides.toString());
        DUE.is("REGIONS of 24 pairs", x.count(2), 24);
        DUE.is("REGIONS of 24 sides", y.count(2), 24);
        DUE.is("all are OUTER: pairs", x.fun(0, 3), 0xffffff);
        DUE.is("all are OUTER: sides", y.fun(0, 3), 0xffffff);
        for (int v = 0; v <= 24; v++) {
            DUE.is("pairs: points(0, " + v + ")", x.points(0, v), v - 1);
            DUE.is("sides: points(0, " + v + ")", y.points(0, v), v < 24 ? v : -1);
        }
        for (int r = 0; r < 24; r++) {
            DUE.is("pairs: region(" + r + ", 0)", x.region(r, 0), r - 1);
            DUE.is("pairs: region(" + r + ", 1)", x.region(r, 1), -1);
            DUE.is("sides: region(" + r + ", 0)", y.region(r, 0), r % 2 == 1 && r < 23 ? r + 1 : -1);
            DUE.is("sides: region(" + r + ", 1)", y.region(r, 1), r % 2 == 0 ? r + 1 : -1);
        }
        DUE.is("pairs: region(24, 0)", x.region(24, 0), -1);
        StringBuilder chains = new StringBuilder("fun main n a xa;");
        for (int i = 1; i <= 11; i++) {
            chains.append(name(i)).append(" is left ").append(name(i - 1)).append(';');
            chains.append('x').append(name(i)).append(" is left x").append(name(i - 1)).append(';');
        }
        RegionRooms w = DUE.with(chains + "y is pick n a xa; z is n;");
        DUE.is("REGIONS of two chains that are one", w.count(2), 11);
        for (int r = 0; r < 11; r++) {
            DUE.is("chain: region(" + r + ", 0)", w.region(r, 0), r < 10 ? r + 1 : -1);
        }
        DUE.is("the first ones are the same", w.points(0, 1), w.points(0, 2));
        RegionRooms v = DUE.with(chains.toString().replace("left", "right") + "y is pick n a xa; z is n;");
        DUE.is("REGIONS of two chains of RIGHT sides", v.count(2), 11);
        for (int i = 0; i < 30; i++) {
            DUE.is("the same PROGRAM again", Due.program(x, pairs.toString()), 25);
        }
        DUE.is("its REGIONS", x.count(2), 24);
        DUE.is("its last one", x.points(0, 24), 23);
    }

    /** A chain of 23 REGIONS, of which the last two must be the same: so all must, one below another. */
    private static void oneWithItsSide() {
        StringBuilder lefts = new StringBuilder("fun main a;");
        StringBuilder rights = new StringBuilder("fun main a;");
        for (int i = 1; i <= 23; i++) {
            lefts.append(name(i)).append(" is pair ").append(name(i - 1)).append(" a;");
            rights.append(name(i)).append(" is pair a ").append(name(i - 1)).append(';');
        }
        String pick = "zz is pick a " + name(23) + " " + name(22) + ";";
        for (String text : new String[] {lefts + pick, rights + pick}) {
            RegionRooms x = DUE.with(text);
            DUE.is("REGIONS of " + text, x.count(2), 1);
            region(x, 0, 0, 0, 0, 1, 0, 0, 0);
            for (int v = 0; v <= 24; v++) {
                DUE.is("points(0, " + v + ") of " + text, x.points(0, v), 0);
            }
        }
    }

    /** By its LEFT, and all that is there, then by its RIGHT, though a VAR ahead of those points to that. */
    private static void deepAheadOfTheNext() {
        StringBuilder lefts = new StringBuilder("fun main a; qq is right a; yy is left qq;");
        for (int i = 1; i <= 22; i++) {
            lefts.append(name(i)).append(" is left ").append(name(i - 1)).append(';');
        }
        RegionRooms x = DUE.with(lefts.toString());
        DUE.is("REGIONS", x.count(2), 23);
        DUE.is("the RIGHT one comes last", x.points(0, 1), 22);
        DUE.is("the deepest", x.points(0, 23), 21);
        StringBuilder rights = new StringBuilder("fun main pp; qq is right pp; yy is left qq; a is left pp;");
        for (int i = 1; i <= 21; i++) {
            rights.append(name(i)).append(" is right ").append(name(i - 1)).append(';');
        }
        RegionRooms z = DUE.with(rights.toString());
        DUE.is("REGIONS by RIGHT sides", z.count(2), 23);
        DUE.is("the first one's RIGHT comes last", z.points(0, 1), 22);
        DUE.is("the deepest by RIGHT sides", z.points(0, 23), 21);
    }

    private static void newProgramForgets() {
        RegionRooms x = DUE.with("fun f n; a is pair n n; b is pair a n; c is 1; fun main n; p is pair n n; q is call f p;");
        DUE.is("a second PROGRAM", Due.program(x, "fun main n; o is 1; l is left n; r is 2;"), 4);
        points(x, 0, 0, -1, -1, -1);
        region(x, 0, -1, -1, 0, 0, 0, 0, 0);
        region(x, 1, -1, -1, -1, -1, -1, -1, -1);
        fun(x, 0, 1, 3, 0, 1, 0, 0);
        DUE.is("a third one", Due.program(x, "fun main; o is 1; p is pair o o; r is left p; s is 2;"), 5);
        points(x, 0, -1, 0, -1, -1);
        region(x, 0, -1, -1, 1, 1, 1, 0, 0);
        span(x, 0, 0, 1, 2);
        DUE.is("load()", x.load(), true);
        for (int i = 0; i < 4; i++) {
            DUE.is("ROOMS", x.now(6), i == 2 ? 1 : 0);
            DUE.is("steps(1)", x.steps(1), 1);
        }
        DUE.is("ENDED", x.now(0), 2);
        RegionRooms y = DUE.with("fun f a b c; x is a; fun main n m; o is when m f n n n else n;");
        DUE.is("a PROGRAM with fewer VARS in its second LINE", Due.program(y, "fun main n; p is pair n n; q is pick n n n; z is 1;"), 4);
        span(y, 0, 0, 0, 0);
    }

    private static void wrongOnes() {
        RegionRooms x = DUE.with("fun f n; a is pair n n; b is left a; fun main n; a is call f n; b is 1;");
        int[] wild = {-1, 2, 24, 99, Integer.MAX_VALUE, Integer.MIN_VALUE};
        for (int w : wild) {
            DUE.noSuch("fun(" + w + ", 0)", () -> x.fun(w, 0));
            DUE.is("points(" + w + ", 0)", x.points(w, 0), -1);
            DUE.is("region(" + w + ", 2)", x.region(w, 2), -1);
            DUE.is("span(" + w + ", 0, 0)", x.span(w, 0, 0), -1);
            DUE.is("span(0, " + w + ", 0)", x.span(0, w, 0), -1);
            DUE.is("span(0, 0, " + w + ")", x.span(0, 0, w), -1);
        }
        for (int w : new int[] {-1, 6, 99, Integer.MAX_VALUE, Integer.MIN_VALUE}) {
            DUE.noSuch("fun(0, " + w + ")", () -> x.fun(0, w));
            DUE.is("points(0, " + w + ")", x.points(0, w), -1);
        }
        for (int w : new int[] {-1, 7, 99, Integer.MAX_VALUE, Integer.MIN_VALUE}) {
            DUE.is("region(0, " + w + ")", x.region(0, w), -1);
        }
        DUE.is("points(0, 3): f has three VARS", x.points(0, 3), -1);
        DUE.is("a REGION that is not there", x.region(1, 2), -1);
    }
}
