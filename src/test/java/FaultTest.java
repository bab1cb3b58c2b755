/** Promises 4 and 5: what is a PROGRAM, and where and of which kind its first FAULT is. */
public final class FaultTest {
    private static final Due DUE = new Due("FaultTest");
    private static final String[] RESERVED = {"fun", "is", "pair", "left", "right", "sum", "less", "pick", "call",
        "when", "else", "or", "and", "not", "finite", "outer", "live", "owned", "filled", "cells", "rooms", "number"};

    public static void main(String[] args) {
        goodOnes();
        ends();
        tokens();
        order();
        names();
        reserved();
        calls();
        limits();
        lengths();
        programStays();
        oldVarsAreForgotten();
        DUE.end();
    }

    private static void good(String text, int lines) {
        RegionRooms x = new RegionRooms();
        DUE.is("program() of " + text, Due.program(x, text), lines);
        DUE.is("fault() of " + text, x.fault(), 0);
    }

    private static void bad(String text, int kind, int place) {
        RegionRooms x = new RegionRooms();
        DUE.is("program() of " + text, Due.program(x, text), -1 - place);
        DUE.is("fault() of " + text, x.fault(), kind);
        DUE.is("count(0) behind " + text, x.count(0), 0);
    }

    private static void goodOnes() {
        good("", 0);
        good(" \n ", 0);
        good("fun f;a is 1;", 2);
        good("fun f;a is 1;b is pair a a;", 3);
        good(" fun\nf ;\na is 999 ; ", 2);
        good("fun f a b c; d is pick a b c;", 2);
        good("fun f; a is call f;", 2);
        good("fun f n; a is when n f n else n;", 2);
        good("fun f f; g is call f f;", 2);
        good("fun f a; b is a; fun g a; b is call f a;", 4);
        good("fun abcdefg abcdefg; hijklmn is abcdefg;", 2);
        good("fun f; a is 000;", 2);
        good("fun f a aa aaa; b is aa; ba is pair b aaa;", 3);
        good("fun a; z is 1; fun aa; z is call a; az is call aa;", 5);
    }

    private static void ends() {
        bad("fun", 1, 3);
        bad("fun ", 1, 4);
        bad("fun f", 1, 5);
        bad("fun f a", 1, 7);
        bad("fun f; a", 1, 8);
        bad("fun f; a is", 1, 11);
        bad("fun f; a is 1", 1, 13);
        bad("fun f; a is 1 \n", 1, 15);
        bad("fun f n; a is pair n", 1, 20);
        bad("fun f;", 3, 6);
        bad("fun f;  ", 3, 8);
        bad("fun f; a is 1; fun g;", 3, 21);
    }

    private static void tokens() {
        bad("fun f; a is 1234;", 1, 12);
        bad("fun f; a is 12a;", 1, 12);
        bad("fun f; a is a1;", 1, 12);
        bad("fun f; abcdefgh is 1;", 1, 7);
        bad("fun f; a1 is 1;", 1, 7);
        bad("fun F; a is 1;", 1, 4);
        bad("fun f; a is 1; .", 1, 15);
        bad("fun f;\ta is 1;", 1, 6);
        bad("fun f; a is 1;\r", 1, 14);
        bad("fun f; a is -1;", 1, 12);
        bad("fun f; a is 1;" + (char) 0, 1, 14);
        bad("fun f; a is 1;" + (char) 233, 1, 14);
        bad("fun f; a is 1; b is a,", 1, 21);
        bad("fun f a b1; c is 1;", 1, 8);
        bad("fun f a 1b; c is 1;", 1, 8);
        bad("fun f n; a is pair n n1;", 1, 21);
        bad("fun f n; a is pair n eightlet;", 1, 21);
        bad("fun f; a is 1 2222;", 1, 14);
    }

    private static void order() {
        bad(";", 1, 0);
        bad("fun f;; a is 1;", 1, 6);
        bad("fun f; a is 1;;", 1, 14);
        bad("fun 1; a is 1;", 1, 4);
        bad("fun ; a is 1;", 1, 4);
        bad("fun f 1; a is 1;", 1, 6);
        bad("fun f; 1 is 1;", 1, 7);
        bad("fun f; a = 1;", 1, 9);
        bad("fun f; a 1;", 1, 9);
        bad("fun f; a is ;", 1, 12);
        bad("fun f; a is is;", 1, 12);
        bad("fun f; a is finite;", 1, 12);
        bad("fun f; a is number;", 1, 12);
        bad("fun f; a is 1 2;", 1, 14);
        bad("fun f; a is 1 a;", 1, 14);
        bad("fun f; a is (1);", 1, 12);
        bad("fun f n; a is pair n;", 1, 20);
        bad("fun f n; a is pair n n n;", 1, 23);
        bad("fun f n; a is pair n 1;", 1, 21);
        bad("fun f n; a is left;", 1, 18);
        bad("fun f n; a is left n n;", 1, 21);
        bad("fun f n; a is right n n;", 1, 22);
        bad("fun f n; a is sum n;", 1, 19);
        bad("fun f n; a is less n n n;", 1, 23);
        bad("fun f n; a is pick n n;", 1, 22);
        bad("fun f n; a is pick n n n n;", 1, 25);
        bad("fun f n; a is n n;", 1, 16);
    }

    private static void names() {
        bad("fun f; a is 1; a is 2;", 3, 15);
        bad("fun f a; a is 2;", 3, 9);
        bad("fun f a a; b is 1;", 3, 8);
        bad("fun f a b c a; d is 1;", 3, 12);
        bad("fun f; a is 1; fun f; b is 1;", 3, 19);
        bad("fun f; a is b;", 3, 12);
        bad("fun f; a is a;", 3, 12);
        bad("fun f; a is pair a a;", 3, 17);
        bad("fun f n; a is pair n b;", 3, 21);
        bad("fun f; a is 1; fun g; b is a;", 3, 27);
        bad("fun f; a is call g; fun g; b is 1;", 3, 17);
        bad("fun f n; a is call n n;", 3, 19);
        bad("fun f; fun g; a is 1;", 3, 7);
        bad("fun f; fun f; a is 1;", 3, 7);
        bad("fun f n; a is when n g n else n;", 3, 21);
        bad("fun f n; a is when b f n else n;", 3, 19);
        bad("fun f n; a is when n f n else b;", 3, 30);
    }

    /** None of the reserved words is a NAME or a VAR. */
    private static void reserved() {
        for (String word : RESERVED) {
            bad("fun " + word + "; a is 1;", 1, 4);
            bad("fun f " + word + "; a is 1;", 1, 6);
            bad("fun f n; a is pair n " + word + ";", 1, 21);
            bad("fun f n; a is call " + word + ";", 1, 19);
            if (!word.equals("fun")) {
                bad("fun f n; " + word + " is 1;", 1, 9);
            }
        }
    }

    private static void calls() {
        bad("fun f n; a is call f;", 1, 20);
        bad("fun f n; a is call f n n;", 1, 23);
        bad("fun f n; a is call;", 1, 18);
        bad("fun f n; a is call 1;", 1, 19);
        bad("fun f n; a is when n f n;", 1, 24);
        bad("fun f n; a is when n f else n;", 1, 23);
        bad("fun f n; a is when n f n n else n;", 1, 25);
        bad("fun f n; a is when n f n else;", 1, 29);
        bad("fun f n; a is when n f n else n n;", 1, 32);
        bad("fun f n; a is call f n else n;", 1, 23);
        good("fun f; a is 1; fun g n; b is when n f else n;", 4);
    }

    private static String lines(int from, int to) {
        StringBuilder text = new StringBuilder();
        for (int i = from; i < to; i++) {
            text.append((char) ('a' + i)).append(" is 1;");
        }
        return text.toString();
    }

    private static void limits() {
        bad("a is 1;", 4, 0);
        bad(" a", 4, 1);
        bad("pair", 1, 0);
        bad("fun f a b c d; e is 1;", 4, 12);
        String most = "fun f;" + lines(0, 24);
        good(most, 25);
        bad(most + " y is 1;", 4, most.length() + 1);
        bad(most + "y", 4, most.length());
        bad(most + "a is 1;", 3, most.length());
        bad(most + "left is 1;", 1, most.length());
        bad(most + "fun g;", 3, most.length() + 6);
        bad(most + "fun g; a is 1;", 4, most.length() + 7);
        String five = "fun a;x is 1;fun b;x is 1;fun c;x is 1;fun d;x is 1;fun e;";
        good(five + "x is 1;", 10);
        bad(five + "x is 1; fun f;x is 1;", 4, five.length() + 8);
        bad(five + "x is 1;fun", 4, five.length() + 7);
        bad(five + "fun f;x is 1;", 3, five.length());
        good(five + lines(0, 20), 29);
        bad(five + lines(0, 21), 4, five.length() + 140);
    }

    private static String padded(String text, int to) {
        return text + " ".repeat(to - text.length());
    }

    private static void lengths() {
        for (int size : new int[] {899, 900, 901, 940}) {
            // as many TOKENS as bytes
            bad(";".repeat(size), 1, 0);
        }
        String small = "fun f; a is 1;";
        good(padded(small, 900), 2);
        bad(padded(small, 901), 1, 900);
        bad(padded(small, 940), 1, 900);
        bad(padded("fun f; a is a;", 940), 3, 12);
        bad(padded(padded(small, 899) + "?", 920), 1, 899);
        bad(padded(padded(small, 900) + "?", 920), 1, 900);
        bad(padded("fun f;", 900), 3, 900);
        bad(padded("fun f;", 901), 1, 900);
        // a TOKEN that begins ahead of the 900th byte is read whole
        bad(padded(small, 897) + "abcdefg is 1;", 1, 900);
        bad(padded(small, 897) + "abcdefgh is 1;", 1, 897);
        bad(padded(small, 899) + "ab is 1;", 1, 900);
        bad(padded(small, 899) + "a is 1;", 3, 899);
        bad(padded("fun f; a is", 898) + "1234", 1, 898);
        bad(padded("fun f; a is", 898) + "123;", 1, 900);
        good(padded("fun f; a is 1", 899) + ";", 2);
        bad(padded("fun f; a is 1", 900) + ";", 1, 900);
    }

    private static void programStays() {
        RegionRooms x = DUE.with("fun main n; p is pair n n; h is left p;");
        DUE.is("sentence()", Due.sentence(x, "live"), 1);
        DUE.is("load()", Due.load(x, 7), true);
        DUE.is("steps(1)", x.steps(1), 1);
        DUE.is("program() with a FAULT", Due.program(x, "fun f; a is b;"), -13);
        DUE.is("fault()", x.fault(), 3);
        DUE.is("FUNS", x.count(0), 1);
        DUE.is("LINES", x.count(1), 2);
        DUE.is("it still RUNS", x.now(0), 1);
        DUE.is("its CELL", x.in(0, 0), 7);
        DUE.is("the SENTENCE", x.said(0), 0);
        DUE.is("how many can be undone", x.undo(), 1);
        DUE.is("an empty PROGRAM", x.program(), 0);
        DUE.is("fault() then", x.fault(), 0);
        DUE.is("FUNS then", x.count(0), 0);
        DUE.is("REGIONS then", x.count(2), 0);
        DUE.is("FINITE then", x.count(3), 0);
        DUE.is("IDLE then", x.now(0), 0);
        DUE.is("ROOMS then", x.now(6), 0);
        DUE.is("no SENTENCE then", x.said(-1), -1);
        DUE.is("no undo then", x.undo(), -1);
        DUE.noSuch("fun(0, 0) then", () -> x.fun(0, 0));
    }

    /** A LINE ahead of any FUN tells no VAR twice, whatever an older text told. */
    private static void oldVarsAreForgotten() {
        RegionRooms x = DUE.with("fun f a; b is a;");
        DUE.is("program() that begins with an old VAR", Due.program(x, "a is 1;"), -1);
        DUE.is("its fault()", x.fault(), 4);
        DUE.is("program() that tells old VARS anew", Due.program(x, "fun g b; a is b;"), 2);
        DUE.is("a FAULT behind two VARS", Due.program(x, "fun h b; a is b; a is 1"), -18);
        DUE.is("its fault() then", x.fault(), 3);
        DUE.is("program() that begins with the second one", Due.program(x, " a is 1;"), -2);
        DUE.is("its fault() again", x.fault(), 4);
    }
}
