/** The boundaries of texts that 'Terms' names: TOKENS, PROGRAMS, SENTENCES and their FAULTS, one test a sentence. */
public final class TextEdgeTest {
    private static final Due DUE = new Due("TextEdgeTest");
    private static final Edges DOC = new Edges(DUE);
    private static final String SMALL = "fun f n; a is n;";
    private static final String[] PROGRAM_WORDS = {"fun", "is", "pair", "left", "right", "sum", "less", "pick", "call",
        "when", "else"};
    private static final String[] SENTENCE_WORDS = {"or", "and", "not", "finite", "outer", "live", "owned", "filled",
        "cells", "rooms", "number"};

    public static void main(String[] args) {
        blanks();
        words();
        numbers();
        goesOn();
        noToken();
        bytesOfAProgram();
        noLine();
        parameters();
        newVar();
        argumentCounts();
        reservedWords();
        nameOnce();
        toldAhead();
        lastVarIsTheResult();
        funWithoutLine();
        fiveFuns();
        linesInAll();
        numbering();
        mainIsTheLast();
        bytesOfASentence();
        emptySentence();
        twentyOnes();
        eightWithin();
        signs();
        firstAlongTheText();
        leastOfOneToken();
        placeOfTheEnd();
        placeOfTheMostBytes();
        readWhole();
        kindTwo();
        placesOfThree();
        placesOfFour();
        DUE.end();
    }

    private static void good(String text, int lines) {
        RegionRooms x = new RegionRooms();
        DUE.is("program() of " + text, Due.program(x, text), lines);
        DUE.is("fault() of " + text, x.fault(), 0);
    }

    private static void bad(String text, int kind, int place) {
        RegionRooms x = new RegionRooms();
        DUE.is("program() of " + text, Due.program(x, text), -1 - place);
        DUE.is("fault() of " + text, x.fault(), kind);
    }

    private static void says(String text, int ones) {
        RegionRooms x = DUE.with(SMALL);
        DUE.is("sentence() of " + text, Due.sentence(x, text), ones);
        DUE.is("fault() of " + text, x.fault(), 0);
    }

    private static void saysNot(String text, int kind, int place) {
        RegionRooms x = DUE.with(SMALL);
        DUE.is("sentence() of " + text, Due.sentence(x, text), -1 - place);
        DUE.is("fault() of " + text, x.fault(), kind);
    }

    private static String padded(String text, int to) {
        return text + " ".repeat(to - text.length());
    }

    private static String lines(int howMany) {
        StringBuilder text = new StringBuilder();
        for (int i = 0; i < howMany; i++) {
            text.append((char) ('a' + i)).append(" is 1;");
        }
        return text.toString();
    }

    private static void blanks() {
        DOC.term("with blanks (32, 10) between them or not");
        good("\n\n fun \n f\n;\na\nis\n1\n;\n ", 2);
        good("fun f;a is 1;", 2);
        for (int c = 0; c < 256; c++) {
            if (c != 32 && c != 10) {
                RegionRooms x = new RegionRooms();
                boolean letter = c >= 'a' && c <= 'z';
                // a letter is a VAR, behind which 'is' is wanted
                DUE.is("program() with " + c + " for a blank", Due.program(x, "fun f;" + (char) c + ";"), letter ? -8 : -7);
                DUE.is("fault() with " + c + " for a blank", x.fault(), 1);
            }
        }
    }

    private static void words() {
        DOC.term("WORDS: small letters, 1 to 7;");
        good("fun z; a is 1;", 2);
        good("fun zzzzzzz; abcdefg is 1;", 2);
        bad("fun zzzzzzzz; a is 1;", 1, 4);
        bad("fun f; abcdefgh is 1;", 1, 7);
        bad("fun f abcdefgh; a is 1;", 1, 6);
        bad("fun A; a is 1;", 1, 4);
        bad("fun aB; a is 1;", 1, 5);
        bad("fun f_; a is 1;", 1, 5);
        bad("fun `; a is 1;", 1, 4);
        bad("fun {; a is 1;", 1, 4);
    }

    private static void numbers() {
        DOC.term("NUMBERS: 1 to 3 digits;");
        int[] value = {0, 9, 10, 99, 100, 999, 7, 7};
        String[] told = {"0", "9", "10", "99", "100", "999", "07", "007"};
        for (int i = 0; i < told.length; i++) {
            RegionRooms x = DUE.with("fun f; a is " + told[i] + ";");
            DUE.is("load()", x.load(), true);
            DUE.is("steps(1)", x.steps(1), 1);
            DUE.is("the number " + told[i], x.result(), value[i]);
        }
        bad("fun f; a is 1000;", 1, 12);
        bad("fun f; a is 0000;", 1, 12);
        bad("fun f; a is 12345678901234567890;", 1, 12);
        bad("fun f; a is /;", 1, 12);
        bad("fun f; a is :;", 1, 12);
    }

    private static void goesOn() {
        DOC.term("A WORD, NUMBER goes on as long as small letters and digits do");
        bad("fun f; a is1;", 1, 9);
        bad("funf; a is 1;", 4, 0);
        bad("fun f; a is 1a;", 1, 12);
        bad("fun f n; a is pair n 1n;", 1, 21);
        bad("fun f n; a is pair nn;", 3, 19);
        bad("fun f; a is 12b34;", 1, 12);
        bad("fun a1b; c is 1;", 1, 4);
        saysNot("cells<1and live", 1, 6);
        saysNot("cells<3 andlive", 1, 8);
        says("cells<1 and live", 2);
        says("(live)and(live)", 4);
    }

    private static void noToken() {
        DOC.term("what is not as told is no TOKEN.");
        for (int c = 0; c < 256; c++) {
            if (c != 32 && c != 10) {
                RegionRooms x = DUE.with(SMALL);
                boolean goesOn = c >= 'a' && c <= 'z' || c >= '0' && c <= '9';
                DUE.is("sentence() with " + c + " behind a WORD", Due.sentence(x, "live" + (char) c), goesOn ? -1 : -5);
                DUE.is("fault() with " + c + " behind a WORD", x.fault(), 1);
            }
        }
    }

    private static void bytesOfAProgram() {
        DOC.term("A PROGRAM is a text of at most 900 bytes");
        good(padded(SMALL, 899), 2);
        good(padded(SMALL, 900), 2);
        bad(padded(SMALL, 901), 1, 900);
        bad(padded(SMALL, 940), 1, 900);
        good(" ".repeat(900 - SMALL.length()) + SMALL, 2);
        bad(" ".repeat(901 - SMALL.length()) + SMALL, 1, 900);
    }

    private static void noLine() {
        DOC.term("{ LINE ; }.");
        good("", 0);
        good(" ", 0);
        good(" ".repeat(900), 0);
        bad(" ".repeat(901), 1, 900);
        bad(";", 1, 0);
        bad("fun f n; a is n", 1, 15);
        bad("fun f n a is n;", 1, 10);
    }

    private static void parameters() {
        DOC.term("a new FUN and its PARAMETERS, 3 at most");
        String[] told = {"", " a", " a b", " a b c"};
        for (int i = 0; i < told.length; i++) {
            RegionRooms x = DUE.with("fun f" + told[i] + "; r is 1;");
            DUE.is("PARAMETERS of" + told[i], x.fun(0, 0), i);
        }
        bad("fun f a b c d; r is 1;", 4, 12);
        bad("fun f a b c d e; r is 1;", 4, 12);
    }

    private static void newVar() {
        DOC.term("the next LINE of the latest FUN: the VAR is new in it");
        bad("fun f n; n is 1;", 3, 9);
        bad("fun f; a is 1; a is 1;", 3, 15);
        good("fun f; a is 1; fun g; a is 1;", 4);
        RegionRooms x = DUE.with("fun f; a is 1; fun g; b is 1; c is 1;");
        DUE.is("LINES of the first FUN", x.fun(0, 1), 1);
        DUE.is("LINES of the latest", x.fun(1, 1), 2);
    }

    private static void argumentCounts() {
        DOC.term("(as many VARS as the FUN has PARAMETERS)");
        String[] funs = {"fun f; r is 1;", "fun f a; r is a;", "fun f a b; r is a;", "fun f a b c; r is a;"};
        for (int has = 0; has <= 3; has++) {
            for (int given = 0; given <= 4; given++) {
                String call = funs[has] + " fun m n; x is call f" + " n".repeat(given);
                String when = funs[has] + " fun m n; x is when n f" + " n".repeat(given);
                int callPlace = call.length() - (given > has ? 2 * (given - has) - 1 : 0);
                int whenPlace = when.length() - (given > has ? 2 * (given - has) - 1 : -1);
                if (has == given) {
                    good(call + ";", 4);
                    good(when + " else n;", 4);
                } else {
                    bad(call + ";", 1, callPlace);
                    bad(when + " else n;", 1, whenPlace);
                }
            }
        }
    }

    private static void reservedWords() {
        DOC.term("NAME, VAR: a WORD, none of those told here or in a SENTENCE");
        for (String word : PROGRAM_WORDS) {
            reserved(word);
        }
        for (String word : SENTENCE_WORDS) {
            reserved(word);
        }
        // these are told in the document, but not as words of a text
        good("fun main; name is 1; var is 1; line is 1; expr is 1; sign is 1; cond is 1; all is 1; one is 1;", 9);
        good("fun funs; iss is 1; ors is 1; ands is 1; cell is 1; room is 1; numbers is 1; els is 1;", 8);
    }

    private static void reserved(String word) {
        bad("fun " + word + "; a is 1;", 1, 4);
        bad("fun f " + word + "; a is 1;", 1, 6);
        bad("fun f n; a is left " + word + ";", 1, 19);
        bad("fun f n; a is call " + word + " n;", 1, 19);
        if (!word.equals("fun")) {
            bad("fun f n; " + word + " is 1;", 1, 9);
        }
    }

    private static void nameOnce() {
        DOC.term("a NAME is told once, a VAR once in a FUN.");
        bad("fun f; a is 1; fun g; a is 1; fun f; a is 1;", 3, 34);
        good("fun f f; g is f; fun g f; h is f;", 4);
        bad("fun f a b a; c is 1;", 3, 10);
    }

    private static void toldAhead() {
        DOC.term("VARS of an EXPR are told ahead in this FUN, a FUN ahead, or it is this one.");
        bad("fun f; a is b; b is 1;", 3, 12);
        bad("fun f; a is a;", 3, 12);
        bad("fun f n; a is n; fun g; b is n;", 3, 29);
        bad("fun f; a is call g; fun g; a is 1;", 3, 17);
        good("fun f; a is call f;", 2);
        good("fun f; a is 1; fun g; a is call f; b is call g;", 5);
    }

    private static void lastVarIsTheResult() {
        DOC.term("The last VAR of a FUN is its RESULT");
        RegionRooms x = DUE.with("fun f n; a is 5; b is 6;");
        DUE.is("run()", Due.run(x, 1), 2);
        DUE.is("the RESULT", x.ran(6), 6);
    }

    private static void funWithoutLine() {
        DOC.term("each FUN has a LINE with 'is'");
        bad("fun f;", 3, 6);
        bad("fun f; fun g; a is 1;", 3, 7);
        bad("fun f; a is 1; fun g;", 3, 21);
        good("fun f; a is 1;", 2);
    }

    private static void fiveFuns() {
        DOC.term("5 FUNS, 24 LINES in all at most");
        String five = "fun a;x is 1;fun b;x is 1;fun c;x is 1;fun d;x is 1;fun e;x is 1;";
        good(five, 10);
        bad(five + "fun f;x is 1;", 4, five.length());
    }

    private static void linesInAll() {
        DOC.term("24 LINES in all at most");
        good("fun f;" + lines(23), 24);
        good("fun f;" + lines(24), 25);
        bad("fun f;" + lines(25), 4, 6 + 24 * 7);
        String two = "fun f;" + lines(12) + "fun g;";
        good(two + lines(12), 26);
        bad(two + lines(13), 4, two.length() + 12 * 7);
    }

    private static void numbering() {
        DOC.term("FUNS, VARS of a FUN (PARAMETERS first) and LINES of a FUN are numbered from 0 each");
        RegionRooms x = DUE.with("fun f a; b is pair a a; c is b; fun g a b; c is 1; d is call f c; e is 1;");
        DUE.is("the FUN ahead of 0 is none", x.points(-1, 0), -1);
        DUE.is("FUN 0, VAR 0 is its PARAMETER", x.points(0, 0), -1);
        DUE.is("FUN 0, VAR 1 is of its first LINE", x.points(0, 1), 0);
        DUE.is("FUN 1, VAR 3 is of its second LINE", x.points(1, 3), 0);
        DUE.is("LINES of FUN 1 begin with 0, too", x.span(1, 0, 0), 1);
        DUE.noSuch("FUN 2", () -> x.fun(2, 0));
    }

    private static void mainIsTheLast() {
        DOC.term("MAIN is the last FUN.");
        RegionRooms x = DUE.with("fun main a b; r is 1; fun last a; r is 2;");
        DUE.is("load() of two", Due.load(x, 1, 2), false);
        DUE.is("load() of one", Due.load(x, 1), true);
        DUE.is("its FUN", x.now(3), 1);
    }

    private static void bytesOfASentence() {
        DOC.term("A SENTENCE is a text of at most 200 bytes");
        says(padded("live", 199), 1);
        says(padded("live", 200), 1);
        saysNot(padded("live", 201), 1, 200);
        saysNot(padded("live", 940), 1, 200);
        says(" ".repeat(196) + "live", 1);
        saysNot(" ".repeat(197) + "live", 1, 200);
    }

    private static void emptySentence() {
        DOC.term("COND: ALL { 'or' ALL }.");
        saysNot("", 1, 0);
        saysNot(" \n", 1, 2);
        saysNot(" ".repeat(200), 1, 200);
        saysNot("()", 1, 1);
    }

    private static void twentyOnes() {
        DOC.term("20 ONES, 8 within one another.");
        String nineteen = "live" + " and live".repeat(18);
        says(nineteen, 19);
        says(nineteen + " or live", 20);
        saysNot(nineteen + " or live or live", 4, nineteen.length() + 12);
        // a 'not' and a bracket are ONES, too
        saysNot(nineteen + " or not live", 4, nineteen.length() + 8);
        saysNot(nineteen + " or (live)", 4, nineteen.length() + 5);
    }

    private static void eightWithin() {
        DOC.term("8 within one another.");
        says("not ".repeat(7) + "live", 8);
        saysNot("not ".repeat(8) + "live", 4, 32);
        says("(((((((live)))))))", 8);
        saysNot("((((((((live))))))))", 4, 8);
        says("(not(not(not(live))))", 8);
        saysNot("(not(not(not(not live))))", 4, 17);
        // beside one another they are not within
        says("(((((((live))))))) or (((((((live)))))))", 16);
    }

    private static void signs() {
        DOC.term("SIGN: < = >.");
        says("cells<0", 1);
        says("rooms=0", 1);
        says("number>999", 1);
        saysNot("cells(0)", 1, 5);
        saysNot("cells;0", 1, 5);
        saysNot("cells 0", 1, 6);
        saysNot("cells<>0", 1, 6);
        saysNot("cells<1000", 1, 6);
    }

    private static void firstAlongTheText() {
        DOC.term("FAULTS, the first along the text");
        bad("fun f a a 1; b is c; .", 3, 8);
        bad("fun f a b c d d 1; .", 4, 12);
        bad("fun f a; b is pair c 1;", 3, 19);
        bad("fun f a; b is pair 1 c;", 1, 19);
        bad("a is b; .", 4, 0);
        saysNot("owned g and )", 3, 6);
        saysNot(") and owned g", 1, 0);
    }

    private static void leastOfOneToken() {
        DOC.term("of one TOKEN the least");
        bad("fun f a b c a; d is 1;", 3, 12);
        bad("fun f n;" + lines(24).replace("n is", "nn is") + "n is 1;", 3, 8 + 24 * 7 + 1);
        bad("fun a;x is 1;fun b;x is 1;fun c;x is 1;fun d;x is 1;fun e;fun f;x is 1;", 3, 58);
        bad("fun f; fun f; a is 1;", 3, 7);
        bad("fun f;" + lines(24) + "left is 1;", 1, 6 + 24 * 7);
        bad("left is 1;", 1, 0);
        bad("fun f n; a is n zzz;", 1, 16);
        bad("fun f", 1, 5);
        saysNot("live" + " and live".repeat(19) + " or ;", 1, 4 + 19 * 9 + 4);
        saysNot("not ".repeat(8) + ")", 1, 32);
    }

    private static void placeOfTheEnd() {
        DOC.term("the end: how many bytes there are");
        bad("fun", 1, 3);
        bad("fun f; a is 1  ", 1, 15);
        bad("fun f;   ", 3, 9);
        bad(padded("fun f; a is 1", 900), 1, 900);
        saysNot("live and  ", 1, 10);
        saysNot(padded("live or", 200), 1, 200);
    }

    private static void placeOfTheMostBytes() {
        DOC.term("the most bytes told, if there are more and no FAULT is ahead");
        bad(padded("fun f; a is 1", 901), 1, 900);
        bad(padded("fun f;", 901), 1, 900);
        bad(padded("fun f; a is b;", 901), 3, 12);
        bad(padded(padded("fun f; a is 1;", 899) + ".", 940), 1, 899);
        bad(padded("fun f; a is 1;", 900) + ".", 1, 900);
        saysNot(padded("live or", 201), 1, 200);
        saysNot(padded("live live", 201), 1, 5);
        saysNot(padded("owned g", 201), 3, 6);
    }

    private static void readWhole() {
        DOC.term("TOKENS that begin ahead of it are read whole");
        bad(padded("fun f; a is", 899) + "12;", 1, 900);
        bad(padded("fun f; a is", 899) + "1234;", 1, 899);
        bad(padded("fun f; aa is 1; b is", 899) + "aa;", 1, 900);
        bad(padded("fun f; aa is 1; b is", 899) + "ab;", 3, 899);
        bad(padded("fun f; a is 1;", 899) + "fun g;", 1, 900);
        bad(padded("fun f; a is 1;", 899) + "fung is 1;", 1, 900);
        bad(padded("fun f; a is 1;", 899) + "abcdefgh is 1;", 1, 899);
        saysNot(padded("", 199) + "live", 1, 200);
        saysNot(padded("", 199) + "lives", 1, 199);
        saysNot(padded("cells <", 199) + "999", 1, 200);
        saysNot(padded("cells <", 199) + "9999", 1, 199);
    }

    /** No text has a FAULT of kind 2: each prefix of a text, and each text with one sign changed. */
    private static void kindTwo() {
        DOC.term("2 does not come");
        String text = "fun f n; a is left n; fun m n; p is pair n n; b is when n f p else n; c is call f p;";
        RegionRooms x = new RegionRooms();
        for (int i = 0; i < text.length(); i++) {
            Due.program(x, text.substring(0, i));
            DUE.is("kind of a prefix", x.fault() == 2, false);
            x = new RegionRooms();
            Due.program(x, text.substring(0, i) + "f" + text.substring(i + 1));
            DUE.is("kind with one sign changed", x.fault() == 2, false);
            x = new RegionRooms();
        }
    }

    private static void placesOfThree() {
        DOC.term("a VAR, a FUN not told (at it), a FUN without a LINE (at the next 'fun', or the end)");
        bad("fun f n; a is pick n n  zz;", 3, 24);
        bad("fun f n; a is when n  zz n else n;", 3, 22);
        bad("fun f n; a is when n f n else  zz;", 3, 31);
        bad("fun f;  fun g; a is 1;", 3, 8);
        bad("fun f;  ", 3, 8);
        saysNot("filled  zz", 3, 8);
        saysNot("owned n", 3, 6);
    }

    private static void placesOfFour() {
        DOC.term("4 a sixth FUN, a LINE ahead of any FUN, a 25th LINE (at its first WORD), a fourth PARAMETER (at it), "
            + "a 21st ONE, a ninth within (at its first TOKEN).");
        String five = "fun a;x is 1;fun b;x is 1;fun c;x is 1;fun d;x is 1;fun e;x is 1;";
        bad(five + "  fun", 4, five.length() + 2);
        bad("  x", 4, 2);
        bad("fun f;" + lines(24) + "  zz", 4, 6 + 24 * 7 + 2);
        bad("fun f a b c  zz", 4, 13);
        saysNot("live" + " or live".repeat(19) + " or  (", 4, 4 + 19 * 8 + 5);
        saysNot("not ".repeat(8) + " owned zz", 4, 33);
    }
}
