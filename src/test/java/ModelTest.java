import java.util.ArrayList;
import java.util.List;
import java.util.NoSuchElementException;
import java.util.Random;

/** Random calls on an object and on the Model: each answer must be the same, and nothing else may be thrown. */
public final class ModelTest {
    private static final int RUNS = 1500;
    private static final int CALLS_MOST = 512;
    private static final long THROWN = Long.MIN_VALUE;
    private static final int[] WILD = {Integer.MIN_VALUE, Integer.MAX_VALUE, -2, -1, 1000, 200, 199, 1 << 30};

    interface Act {
        long answer(int a, int b, int c);
    }

    private final Random random;
    private final Texts texts;
    private final RegionRooms real = new RegionRooms();
    private final Model model = new Model();
    private final List<String> told = new ArrayList<>();
    private int calls = 0;
    private int wrong = 0;
    private static final int[] STATES = new int[4];
    private static final int[] WHYS = new int[6];
    private static final int[] RUN_WHYS = new int[6];
    private static final int[] FAULTS = new int[5];
    private static long asked = 0;

    private ModelTest(int run) {
        random = new Random(run * 7919L + 1);
        texts = new Texts(random);
    }

    public static void main(String[] args) {
        int bad = 0;
        int runs = args.length > 0 ? Integer.parseInt(args[0]) : RUNS;
        for (int run = 0; run < runs && bad < 3; run++) {
            ModelTest test = new ModelTest(run);
            test.all();
            if (test.wrong > 0) {
                bad++;
                System.out.println("run " + run + ":");
                for (String line : test.told) {
                    System.out.println("  " + line);
                }
            }
        }
        System.out.println("ModelTest: " + asked + " answers; machines idle, running, ended, stopped: "
            + java.util.Arrays.toString(STATES) + ", stopped by " + java.util.Arrays.toString(WHYS) + ", runs "
            + java.util.Arrays.toString(RUN_WHYS) + ", faults "
            + java.util.Arrays.toString(FAULTS) + "; runs that differ: " + bad);
        if (bad > 0) {
            System.exit(1);
        }
    }

    private boolean chance(int percent) {
        return random.nextInt(100) < percent;
    }

    private void same(String call, long got, long want) {
        calls++;
        asked++;
        told.add(call + " answered " + got + (got == want ? "" : ", the Model says " + want));
        if (got != want) {
            wrong++;
        }
    }

    private static long guarded(Act act, int a, int b, int c) {
        try {
            return act.answer(a, b, c);
        } catch (NoSuchElementException e) {
            return THROWN;
        }
    }

    private void both(String name, Act ofReal, Act ofModel, int... args) {
        int a = args.length > 0 ? args[0] : 0;
        int b = args.length > 1 ? args[1] : 0;
        int c = args.length > 2 ? args[2] : 0;
        same(name + java.util.Arrays.toString(args), guarded(ofReal, a, b, c), guarded(ofModel, a, b, c));
    }

    /** An argument from -1 to a little above most, now and then a higher or a wild one. */
    private int arg(int most) {
        if (chance(4)) {
            return WILD[random.nextInt(WILD.length)];
        }
        return random.nextInt((chance(8) ? 28 : most) + 3) - 1;
    }

    private void all() {
        newProgram();
        while (calls < CALLS_MOST - 130 && wrong == 0) {
            act();
            if (chance(25)) {
                lookAtAll();
            } else {
                for (int i = 0; i < 4; i++) {
                    look();
                }
            }
        }
    }

    private void tape(String text) {
        for (int from = 0; from < text.length(); from += 20) {
            int[] n = new int[5];
            for (int i = 0; i < 5; i++) {
                n[i] = Due.word(text, from + 4 * i);
            }
            same("feed", real.feed(n[0], n[1], n[2], n[3], n[4]), model.feed(n));
        }
        told.add("  text: " + text);
        both("end", (a, b, c) -> real.end(a) ? 1 : 0, (a, b, c) -> model.end(a) ? 1 : 0, text.length());
    }

    private void newProgram() {
        String text = texts.program();
        if (text.length() > 940) {
            text = text.substring(0, 940);
        }
        if (chance(20)) {
            text = texts.slipped(text);
        }
        tape(text);
        both("program", (a, b, c) -> real.program(), (a, b, c) -> model.program());
        both("fault", (a, b, c) -> real.fault(), (a, b, c) -> model.fault());
        FAULTS[real.fault()]++;
    }

    private void newSentence() {
        String text = texts.sentence();
        if (text.length() > 400) {
            text = text.substring(0, 400);
        }
        tape(chance(30) ? texts.slipped(text) : text);
        both("sentence", (a, b, c) -> real.sentence(), (a, b, c) -> model.sentence());
        both("fault", (a, b, c) -> real.fault(), (a, b, c) -> model.fault());
        FAULTS[real.fault()]++;
    }

    private void numbers() {
        int funs = real.count(0);
        int size = funs == 0 ? 0 : real.fun(funs - 1, 0);
        if (chance(5)) {
            size = random.nextInt(5);
        }
        StringBuilder text = new StringBuilder();
        for (int i = 0; i < size; i++) {
            text.append((char) (chance(80) ? random.nextInt(12) : random.nextInt(256)));
        }
        tape(text.toString());
    }

    private void act() {
        int pick = random.nextInt(100);
        if (pick < 4) {
            newProgram();
        } else if (pick < 22) {
            numbers();
            both("load", (a, b, c) -> real.load() ? 1 : 0, (a, b, c) -> model.load() ? 1 : 0);
        } else if (pick < 60) {
            int n = chance(90) ? 1 + random.nextInt(chance(50) ? 6 : 40) : arg(501);
            walk(chance(10) ? 500 : n, chance(4) ? 11 : 1);
        } else if (pick < 68) {
            numbers();
            both("run", (a, b, c) -> real.run(), (a, b, c) -> model.run());
            RUN_WHYS[Math.max(0, real.ran(4))]++;
        } else if (pick < 71) {
            both("odds", (a, b, c) -> real.odds(a, b), (a, b, c) -> model.odds(a, b), arg(4), random.nextInt());
        } else if (pick < 78) {
            both("undo", (a, b, c) -> real.undo(), (a, b, c) -> model.undo());
        } else if (pick < 88) {
            newSentence();
        } else if (pick < 94) {
            both("image", (a, b, c) -> real.image(a) ? 1 : 0, (a, b, c) -> model.image(a) ? 1 : 0, arg(1));
        } else {
            both("restore", (a, b, c) -> real.restore(a) ? 1 : 0, (a, b, c) -> model.restore(a) ? 1 : 0, arg(1));
        }
    }

    /** Eleven times 500 STEPS are more than there are. */
    private void walk(int n, int times) {
        boolean runs = true;
        for (int i = 0; i < times && runs; i++) {
            both("steps", (a, b, c) -> real.steps(a), (a, b, c) -> model.steps(a), times > 1 ? 500 : n);
            runs = real.now(0) == 1;
        }
        STATES[real.now(0)]++;
        WHYS[real.now(1)]++;
    }

    private void lookAtAll() {
        for (int what = -1; what <= 11; what++) {
            both("now", (a, b, c) -> real.now(a), (a, b, c) -> model.now(a), what);
        }
        for (int what = -1; what <= 8; what++) {
            both("ran", (a, b, c) -> real.ran(a), (a, b, c) -> model.ran(a), what);
        }
        both("reached", (a, b, c) -> real.reached(), (a, b, c) -> model.reached());
        both("drag", (a, b, c) -> real.drag(), (a, b, c) -> model.drag());
        both("gave", (a, b, c) -> real.gave(), (a, b, c) -> model.gave());
        both("result", (a, b, c) -> real.result(), (a, b, c) -> model.result());
        for (int what = -1; what <= 5; what++) {
            both("count", (a, b, c) -> real.count(a), (a, b, c) -> model.count(a), what);
        }
        int some = random.nextInt(6);
        for (int cell = some; cell < some + 3; cell++) {
            for (int what = 0; what <= 2; what++) {
                both("cell", (a, b, c) -> real.cell(a, b), (a, b, c) -> model.cell(a, b), cell, what);
            }
            both("in", (a, b, c) -> real.in(a, b), (a, b, c) -> model.in(a, b), cell, 0);
            both("in", (a, b, c) -> real.in(a, b), (a, b, c) -> model.in(a, b), cell, 1);
        }
        int f = arg(5);
        for (int what = -1; what <= 6; what++) {
            both("fun", (a, b, c) -> real.fun(a, b), (a, b, c) -> model.fun(a, b), f, what);
        }
        int r = arg(4);
        for (int what = -1; what <= 7; what++) {
            both("region", (a, b, c) -> real.region(a, b), (a, b, c) -> model.region(a, b), r, what);
        }
    }

    private void look() {
        switch (random.nextInt(14)) {
            case 0 -> both("fun", (a, b, c) -> real.fun(a, b), (a, b, c) -> model.fun(a, b), arg(4), arg(5));
            case 1 -> both("points", (a, b, c) -> real.points(a, b), (a, b, c) -> model.points(a, b), arg(4), arg(12));
            case 2 -> both("region", (a, b, c) -> real.region(a, b), (a, b, c) -> model.region(a, b), arg(6), arg(6));
            case 3 -> both("span", (a, b, c) -> real.span(a, b, c), (a, b, c) -> model.span(a, b, c), arg(3), arg(5),
                arg(1));
            case 4 -> both("kind", (a, b, c) -> real.kind(a, b), (a, b, c) -> model.kind(a, b), arg(3), arg(9));
            case 5 -> both("value", (a, b, c) -> real.value(a, b), (a, b, c) -> model.value(a, b), arg(3), arg(9));
            case 6 -> both("cell", (a, b, c) -> real.cell(a, b), (a, b, c) -> model.cell(a, b), arg(5), arg(2));
            case 7 -> both("in", (a, b, c) -> real.in(a, b), (a, b, c) -> model.in(a, b), arg(5), arg(1));
            case 8 -> both("room", (a, b, c) -> real.room(a), (a, b, c) -> model.room(a), arg(6));
            case 9 -> both("roomful", (a, b, c) -> real.roomful(a), (a, b, c) -> model.roomful(a), arg(6));
            case 10 -> both("isReached", (a, b, c) -> real.isReached(a), (a, b, c) -> model.isReached(a), arg(6));
            case 11 -> both("said", (a, b, c) -> real.said(a), (a, b, c) -> model.said(a), arg(4));
            case 12 -> both("said", (a, b, c) -> real.said(a), (a, b, c) -> model.said(a), -1);
            default -> both("now", (a, b, c) -> real.now(a), (a, b, c) -> model.now(a), arg(10));
        }
    }
}
