import java.util.ArrayList;
import java.util.List;
import java.util.Random;

/** Random texts: programs that mostly have no FAULT and run a while, sentences, and both with slips in them. */
final class Texts {
    private static final String[] VARS = {"a", "b", "c", "d", "e", "g", "h", "i", "j", "k", "l", "m", "n", "o", "p",
        "q", "r", "s", "t", "u", "v", "w", "x", "y", "z", "aa", "bb", "cc", "longest", "f", "dd"};
    private static final String[] FUNS = {"f", "g", "build", "total", "main", "a", "mapping"};
    private static final String[] SLIPS = {"fun", "is", "pair", "left", "right", "sum", "less", "pick", "call", "when",
        "else", "or", "and", "not", "finite", "outer", "live", "owned", "filled", "cells", "rooms", "number", ";", "<",
        "=", ">", "(", ")", ".", "12", "1234", "007", "a", "b", "f", "main", "eightlet", "sevenle", "x1", "1x", "A",
        ",", "\t", "\u0000", "\u00e9", ";;", "0"};

    private final Random random;
    private final StringBuilder text = new StringBuilder();
    private List<String> vars = new ArrayList<>();
    private List<Character> looks = new ArrayList<>();
    private final List<String> funs = new ArrayList<>();
    private final List<Integer> sizes = new ArrayList<>();
    private int lines;
    private boolean beyond;

    Texts(Random random) {
        this.random = random;
    }

    private boolean chance(int percent) {
        return random.nextInt(100) < percent;
    }

    List<String> funs() {
        return funs;
    }

    /** A PROGRAM as a text; now and then one that goes beyond a limit. */
    String program() {
        text.setLength(0);
        funs.clear();
        sizes.clear();
        lines = 0;
        beyond = chance(8);
        int howMany = 1 + random.nextInt(chance(30) ? 5 : 3);
        if (beyond && chance(30)) {
            howMany = 6;
        }
        int share = chance(20) ? 26 : 24;
        for (int i = 0; i < howMany; i++) {
            int left = share - lines;
            if (left <= 0) {
                break;
            }
            int most = Math.max(1, i == howMany - 1 ? left : left - (howMany - 1 - i));
            fun(1 + random.nextInt(Math.min(most, chance(15) ? 24 : 9)));
        }
        return text.toString();
    }

    private void put(String... words) {
        for (String word : words) {
            boolean sign = word.equals(";");
            if (!sign || chance(10)) {
                text.append(chance(5) ? "\n" : chance(3) ? "  " : " ");
            }
            text.append(word);
        }
    }

    private void fun(int size) {
        vars = new ArrayList<>();
        looks = new ArrayList<>();
        String name = FUNS[random.nextInt(FUNS.length)];
        while (funs.contains(name)) {
            name = FUNS[random.nextInt(FUNS.length)];
        }
        int parameters = random.nextInt(beyond && chance(10) ? 5 : 4);
        boolean endless = parameters >= 1 && size >= 2 && chance(5);
        boolean loop = !endless && parameters >= 2 && size >= 5 && chance(60);
        put("fun", name);
        for (int i = 0; i < parameters; i++) {
            boolean counts = loop && i < 2 || endless && i == 0;
            add(fresh(), counts ? 'n' : "npu".charAt(random.nextInt(3)));
            put(vars.get(i));
        }
        put(";");
        funs.add(name);
        sizes.add(parameters);
        if (loop) {
            loop(name, parameters, size);
        } else if (endless) {
            endless(name, parameters, size);
        } else {
            for (int i = 0; i < size; i++) {
                line();
            }
        }
    }

    /** Counts the first PARAMETER up to the second, with other LINES between. */
    private void loop(String name, int parameters, int size) {
        String from = vars.get(0);
        String to = vars.get(1);
        String one = fresh();
        put(one, "is", "1", ";");
        add(one, 'n');
        String next = fresh();
        put(next, "is", "sum", from, one, ";");
        add(next, 'n');
        String more = fresh();
        put(more, "is", "less", next, to, ";");
        add(more, 'n');
        lines += 4;
        int behind = chance(40) ? random.nextInt(Math.max(1, size - 4)) : 0;
        for (int i = 0; i < size - 4 - behind; i++) {
            line();
        }
        String x = fresh();
        put(x, "is", "when", more, name, next, to);
        for (int i = 2; i < parameters; i++) {
            put(any('u'));
        }
        put("else", any('u'), ";");
        add(x, 'u');
        for (int i = 0; i < behind; i++) {
            line();
        }
    }

    /** LINES that never stop by what they are given, then itself: till there are too many CELLS, FRAMES or STEPS. */
    private void endless(String name, int parameters, int size) {
        for (int i = 0; i < size - 1; i++) {
            String x = fresh();
            put(x, "is");
            if (chance(50)) {
                put("pair", any('u'), any('u'));
                add(x, 'p');
            } else if (chance(50)) {
                put("pick", any('n'), any('u'), any('u'));
                add(x, 'u');
            } else {
                put(chance(50) ? "7" : any('n'));
                add(x, 'n');
            }
            put(";");
        }
        String x = fresh();
        put(x, "is", "call", name, vars.get(0));
        for (int i = 1; i < parameters; i++) {
            put(chance(60) ? any('p') : vars.get(i));
        }
        put(";");
        add(x, 'u');
        lines += size;
    }

    private String fresh() {
        for (int i = 0; i < 100; i++) {
            String word = VARS[random.nextInt(VARS.length)];
            if (!vars.contains(word)) {
                return word;
            }
        }
        return "spare";
    }

    private void add(String word, char look) {
        vars.add(word);
        looks.add(look);
    }

    /** A VAR that looks so, most of the time. */
    private String any(char look) {
        for (int i = 0; i < 12 && look != 'u'; i++) {
            int v = random.nextInt(vars.size());
            if (looks.get(v) == look) {
                return vars.get(v);
            }
        }
        return vars.get(random.nextInt(vars.size()));
    }

    private boolean has(char look) {
        return looks.contains(look);
    }

    private void line() {
        String x = fresh();
        put(x, "is");
        add(x, expr());
        put(";");
        lines++;
    }

    private char expr() {
        int pick = vars.isEmpty() ? 0 : random.nextInt(100);
        if (pick < 8 || !has('n') && !has('u') && chance(60)) {
            put(Integer.toString(random.nextInt(chance(50) ? 4 : 1000)));
            return 'n';
        }
        if (pick < 14) {
            int v = random.nextInt(vars.size());
            put(vars.get(v));
            return looks.get(v);
        }
        if (pick < 42) {
            put("pair", any('u'), any(chance(60) ? 'p' : 'u'));
            return 'p';
        }
        if (pick < 58 && (has('p') || chance(10))) {
            put(chance(50) ? "left" : "right", any('p'));
            return 'u';
        }
        if (pick < 68) {
            put(chance(60) ? "sum" : "less", any('n'), any('n'));
            return 'n';
        }
        if (pick < 78) {
            char look = chance(50) ? 'p' : 'u';
            put("pick", any('n'), any(look), any(look));
            return look;
        }
        int f = chance(85) && funs.size() > 1 ? random.nextInt(funs.size() - 1) : funs.size() - 1;
        boolean when = chance(f == funs.size() - 1 ? 80 : 40);
        put(when ? "when" : "call");
        if (when) {
            put(any('n'));
        }
        put(funs.get(f));
        for (int i = 0; i < sizes.get(f); i++) {
            put(any(chance(50) ? 'n' : 'u'));
        }
        if (when) {
            put("else", any('u'));
        }
        return 'u';
    }

    String sentence() {
        StringBuilder out = new StringBuilder();
        cond(out, chance(10) ? 10 : 3);
        return out.toString();
    }

    private void cond(StringBuilder out, int depth) {
        one(out, depth);
        while (chance(chance(10) ? 90 : 40)) {
            out.append(chance(50) ? " and" : " or");
            one(out, depth);
        }
    }

    private void one(StringBuilder out, int depth) {
        String[] plain = {" finite", " outer", " live"};
        int pick = random.nextInt(100);
        if (pick < 25 && depth > 0) {
            out.append(" not");
            one(out, depth - 1);
        } else if (pick < 45 && depth > 0) {
            out.append(chance(50) ? "(" : " ( ");
            cond(out, depth - 1);
            out.append(")");
        } else if (pick < 60) {
            out.append(plain[random.nextInt(3)]);
        } else if (pick < 78) {
            String f = funs.isEmpty() || chance(4) ? "nobody" : funs.get(random.nextInt(funs.size()));
            out.append(chance(50) ? " owned " : " filled ").append(f);
        } else {
            out.append(new String[] {" cells", " rooms", " number"}[random.nextInt(3)]).append("<=>".charAt(random.nextInt(3)))
                .append(random.nextInt(5));
        }
    }

    /** The text with one slip or some. */
    String slipped(String from) {
        String out = from;
        for (int i = 0; i < 1 + random.nextInt(2); i++) {
            int at = random.nextInt(out.length() + 1);
            int to = Math.min(out.length(), at + random.nextInt(6));
            String slip = SLIPS[random.nextInt(SLIPS.length)];
            switch (random.nextInt(6)) {
                case 0 -> out = out.substring(0, at);
                case 1 -> out = out.substring(0, at) + out.substring(to);
                case 2 -> out = out.substring(0, at) + " " + slip + " " + out.substring(at);
                case 3 -> out = out.substring(0, at) + slip + out.substring(at);
                case 4 -> out = instead(out, slip);
                default -> out = longer(out);
            }
        }
        return out.length() > 940 ? out.substring(0, 940) : out;
    }

    private String instead(String from, String slip) {
        String[] words = from.split(" ");
        if (words.length == 0) {
            return slip;
        }
        words[random.nextInt(words.length)] = slip;
        return String.join(" ", words);
    }

    /** To the edge of 900 or of 200 bytes, by blanks or by a last word. */
    private String longer(String from) {
        int edge = from.length() <= 205 && chance(60) ? 200 : 900;
        int to = edge + random.nextInt(9) - 4;
        if (to < from.length()) {
            return from;
        }
        return from + " ".repeat(to - from.length()) + (chance(50) ? SLIPS[random.nextInt(SLIPS.length)] : "");
    }
}
