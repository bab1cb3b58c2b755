import java.util.NoSuchElementException;

/** What all tests share: texts for the tape, and answers held against those that are due. */
final class Due {
    interface Call {
        int answer();
    }

    private final String test;
    private int asked = 0;
    private int wrong = 0;

    Due(String test) {
        this.test = test;
    }

    void is(String what, long got, long want) {
        asked++;
        if (got != want) {
            wrong++;
            System.out.println(test + ": " + what + " answered " + got + ", due is " + want);
        }
    }

    void is(String what, boolean got, boolean want) {
        is(what, got ? 1 : 0, want ? 1 : 0);
    }

    void noSuch(String what, Call call) {
        boolean thrown = false;
        try {
            call.answer();
        } catch (NoSuchElementException e) {
            thrown = true;
        }
        is(what + " throws NoSuchElementException", thrown, true);
    }

    void end() {
        System.out.println(test + ": " + asked + " answers, " + wrong + " wrong");
        if (wrong != 0) {
            System.exit(1);
        }
    }

    /** Puts a text of up to 940 bytes (characters 0 to 255) on an empty tape. */
    static void feed(RegionRooms x, String text) {
        int rounds = (text.length() + 19) / 20;
        for (int i = 0; i < rounds; i++) {
            x.feed(word(text, 20 * i), word(text, 20 * i + 4), word(text, 20 * i + 8),
                word(text, 20 * i + 12), word(text, 20 * i + 16));
        }
        x.end(text.length());
    }

    static int word(String text, int from) {
        int number = 0;
        for (int i = from; i < from + 4; i++) {
            number = number << 8 | (i < text.length() ? text.charAt(i) & 255 : 0);
        }
        return number;
    }

    static void feedNumbers(RegionRooms x, int... numbers) {
        StringBuilder text = new StringBuilder();
        for (int number : numbers) {
            text.append((char) number);
        }
        feed(x, text.toString());
    }

    static int program(RegionRooms x, String text) {
        feed(x, text);
        return x.program();
    }

    static int sentence(RegionRooms x, String text) {
        feed(x, text);
        return x.sentence();
    }

    static boolean load(RegionRooms x, int... numbers) {
        feedNumbers(x, numbers);
        return x.load();
    }

    static int run(RegionRooms x, int... numbers) {
        feedNumbers(x, numbers);
        return x.run();
    }

    /** A new object with a PROGRAM that has no FAULT. */
    RegionRooms with(String text) {
        RegionRooms x = new RegionRooms();
        int got = program(x, text);
        if (got < 0) {
            is("program() of " + text, got, 0);
        }
        return x;
    }
}
