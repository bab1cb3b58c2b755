import java.util.ArrayDeque;
import java.util.ArrayList;
import java.util.Arrays;
import java.util.Collections;
import java.util.HashMap;
import java.util.IdentityHashMap;
import java.util.List;
import java.util.Map;
import java.util.NoSuchElementException;
import java.util.Set;
import java.util.TreeSet;
import java.util.regex.Matcher;
import java.util.regex.Pattern;

/**
 * A second reading of the document, as slow and as literal as it likes: sets instead of bits, labels
 * instead of roots, objects instead of rows, and steps that are undone by doing all the others again.
 */
final class Model {
    static final Set<String> RESERVED = Set.of("fun", "is", "pair", "left", "right", "sum", "less", "pick",
        "call", "when", "else", "or", "and", "not", "finite", "outer", "live", "owned", "filled", "cells",
        "rooms", "number");

    static final class Fault extends Exception {
        private static final long serialVersionUID = 1L;
        final int kind;
        final int place;

        Fault(int kind, int place) {
            this.kind = kind;
            this.place = place;
        }
    }

    // ---------------------------------------------------------------- texts

    static final class Token {
        final String text;
        final int place;
        final char sort; // w a free word, k a reserved one, n a number, s a sign, b none, e the end

        Token(String text, int place, char sort) {
            this.text = text;
            this.place = place;
            this.sort = sort;
        }

        boolean is(String other) {
            return sort != 'b' && sort != 'e' && text.equals(other);
        }
    }

    static final Pattern PIECE = Pattern.compile("[a-z0-9]+|[^ \\n]", Pattern.DOTALL);

    static ArrayDeque<Token> tokens(String text, int most) {
        ArrayDeque<Token> all = new ArrayDeque<>();
        Matcher m = PIECE.matcher(text);
        while (m.find() && m.start() < most) {
            String piece = m.group();
            char sort = 'b';
            if (piece.matches("[a-z]{1,7}")) {
                sort = RESERVED.contains(piece) ? 'k' : 'w';
            } else if (piece.matches("[0-9]{1,3}")) {
                sort = 'n';
            } else if (piece.matches("[;<=>()]")) {
                sort = 's';
            }
            all.add(new Token(piece, m.start(), sort));
        }
        boolean tooLong = text.length() > most;
        all.add(new Token("", tooLong ? most : text.length(), tooLong ? 'b' : 'e'));
        return all;
    }

    static final class Line {
        String op = "";
        int number = 0;
        int called = -1;
        int test = -1;
        int otherwise = -1;
        List<Integer> of = new ArrayList<>();

        List<Integer> vars() {
            List<Integer> all = new ArrayList<>(of);
            if (op.equals("when")) {
                all.add(test);
                all.add(otherwise);
            }
            return all;
        }

        boolean calls() {
            return op.equals("call") || op.equals("when");
        }
    }

    static final class Fun {
        String name = "";
        int parameters = 0;
        List<String> vars = new ArrayList<>();
        List<Line> lines = new ArrayList<>();

        int x(int line) {
            return parameters + line;
        }
    }

    static Token need(ArrayDeque<Token> in, boolean fits) throws Fault {
        if (!fits) {
            throw new Fault(1, in.peek().place);
        }
        return in.poll();
    }

    static List<Fun> parseProgram(String text) throws Fault {
        ArrayDeque<Token> in = tokens(text, 900);
        List<Fun> funs = new ArrayList<>();
        int told = 0;
        while (in.peek().sort != 'e') {
            Token t = in.peek();
            boolean bare = !funs.isEmpty() && funs.get(funs.size() - 1).lines.isEmpty();
            if (t.is("fun")) {
                if (bare) {
                    throw new Fault(3, t.place);
                }
                if (funs.size() == 5) {
                    throw new Fault(4, t.place);
                }
                in.poll();
                parseFun(in, funs);
            } else {
                need(in, t.sort == 'w');
                if (funs.isEmpty()) {
                    throw new Fault(4, t.place);
                }
                Fun f = funs.get(funs.size() - 1);
                if (f.vars.contains(t.text)) {
                    throw new Fault(3, t.place);
                }
                if (told == 24) {
                    throw new Fault(4, t.place);
                }
                need(in, in.peek().is("is"));
                f.lines.add(parseExpr(in, funs, f));
                f.vars.add(t.text);
                told++;
            }
            need(in, in.peek().is(";"));
        }
        if (!funs.isEmpty() && funs.get(funs.size() - 1).lines.isEmpty()) {
            throw new Fault(3, in.peek().place);
        }
        return funs;
    }

    static void parseFun(ArrayDeque<Token> in, List<Fun> funs) throws Fault {
        Token name = need(in, in.peek().sort == 'w');
        for (Fun f : funs) {
            if (f.name.equals(name.text)) {
                throw new Fault(3, name.place);
            }
        }
        Fun f = new Fun();
        f.name = name.text;
        while (in.peek().sort == 'w') {
            Token t = in.poll();
            if (f.vars.contains(t.text)) {
                throw new Fault(3, t.place);
            }
            if (f.parameters == 3) {
                throw new Fault(4, t.place);
            }
            f.parameters++;
            f.vars.add(t.text);
        }
        funs.add(f);
    }

    static Line parseExpr(ArrayDeque<Token> in, List<Fun> funs, Fun f) throws Fault {
        Line line = new Line();
        Token t = in.peek();
        if (t.sort == 'n') {
            in.poll();
            line.op = "number";
            line.number = Integer.parseInt(t.text);
        } else if (t.sort == 'w') {
            line.op = "same";
            line.of.add(parseVar(in, f));
        } else if (t.is("call")) {
            in.poll();
            line.op = "call";
            parseCall(in, funs, f, line);
        } else if (t.is("when")) {
            in.poll();
            line.op = "when";
            line.test = parseVar(in, f);
            parseCall(in, funs, f, line);
            need(in, in.peek().is("else"));
            line.otherwise = parseVar(in, f);
        } else {
            Map<String, Integer> sizes = Map.of("pair", 2, "left", 1, "right", 1, "sum", 2, "less", 2, "pick", 3);
            need(in, t.sort == 'k' && sizes.containsKey(t.text));
            line.op = t.text;
            for (int i = 0; i < sizes.get(t.text); i++) {
                line.of.add(parseVar(in, f));
            }
        }
        return line;
    }

    static int parseVar(ArrayDeque<Token> in, Fun f) throws Fault {
        Token t = need(in, in.peek().sort == 'w');
        if (!f.vars.contains(t.text)) {
            throw new Fault(3, t.place);
        }
        return f.vars.indexOf(t.text);
    }

    static int parseFunName(ArrayDeque<Token> in, List<Fun> funs) throws Fault {
        Token t = need(in, in.peek().sort == 'w');
        for (int i = 0; i < funs.size(); i++) {
            if (funs.get(i).name.equals(t.text)) {
                return i;
            }
        }
        throw new Fault(3, t.place);
    }

    static void parseCall(ArrayDeque<Token> in, List<Fun> funs, Fun f, Line line) throws Fault {
        line.called = parseFunName(in, funs);
        for (int i = 0; i < funs.get(line.called).parameters; i++) {
            line.of.add(parseVar(in, f));
        }
    }

    // ---------------------------------------------------------------- regions

    /** All that is known of a PROGRAM. */
    static final class Plan {
        List<Fun> funs = new ArrayList<>();
        int regions = 0;
        Map<List<Integer>, Integer> points = new HashMap<>();
        List<Integer> left = new ArrayList<>();
        List<Integer> right = new ArrayList<>();
        List<Set<Integer>> outer = new ArrayList<>();
        List<Set<Integer>> owns = new ArrayList<>();

        int main() {
            return funs.size() - 1;
        }

        Set<Integer> reach(int f, int v) {
            Set<Integer> all = new TreeSet<>();
            collect(points.get(List.of(f, v)), all);
            return all;
        }

        private void collect(int r, Set<Integer> all) {
            if (r >= 0 && all.add(r)) {
                collect(left.get(r), all);
                collect(right.get(r), all);
            }
        }

        boolean inLine(int f, int line, int r) {
            if (reach(f, funs.get(f).x(line)).contains(r)) {
                return true;
            }
            for (int v : funs.get(f).lines.get(line).vars()) {
                if (reach(f, v).contains(r)) {
                    return true;
                }
            }
            return false;
        }

        private final Map<List<Integer>, int[]> spans = new HashMap<>();

        int[] span(int f, int r) {
            return spans.computeIfAbsent(List.of(f, r), key -> {
                int first = -1;
                int last = -1;
                for (int i = 0; i < funs.get(f).lines.size(); i++) {
                    if (inLine(f, i, r)) {
                        first = first < 0 ? i : first;
                        last = i;
                    }
                }
                return new int[] {first, last};
            });
        }

        boolean fills(int f, int r) {
            Fun fun = funs.get(f);
            for (int i = 0; i < fun.lines.size(); i++) {
                if (fun.lines.get(i).op.equals("pair") && points.get(List.of(f, fun.x(i))) == r) {
                    return true;
                }
            }
            return false;
        }

        boolean finite(int r) {
            int fillers = 0;
            boolean owner = false;
            for (int f = 0; f < funs.size(); f++) {
                if (fills(f, r)) {
                    fillers++;
                    owner = owns.get(f).contains(r);
                }
            }
            return fillers == 1 && owner && !outer.get(main()).contains(r);
        }

        boolean leaves(int f, int line) {
            if (line != funs.get(f).lines.size() - 1) {
                return false;
            }
            for (int r : owns.get(f)) {
                if (span(f, r)[1] == line) {
                    return false;
                }
            }
            return true;
        }
    }

    static Plan plan(List<Fun> funs) {
        Plan plan = new Plan();
        plan.funs = funs;
        Map<List<Integer>, Integer> thing = new HashMap<>();
        int things = 0;
        for (int f = 0; f < funs.size(); f++) {
            for (int v = 0; v < funs.get(f).vars.size(); v++) {
                thing.put(List.of(f, v), things++);
            }
        }
        List<int[]> same = new ArrayList<>();
        List<int[]> made = new ArrayList<>(); // who points to a REGION, and its sides
        for (int f = 0; f < funs.size(); f++) {
            Fun fun = funs.get(f);
            for (int i = 0; i < fun.lines.size(); i++) {
                Line line = fun.lines.get(i);
                int x = thing.get(List.of(f, fun.x(i)));
                List<Integer> of = new ArrayList<>();
                for (int v : line.of) {
                    of.add(thing.get(List.of(f, v)));
                }
                switch (line.op) {
                    case "same" -> same.add(new int[] {x, of.get(0)});
                    case "pair" -> {
                        made.add(new int[] {x, things, things + 1});
                        same.add(new int[] {things++, of.get(0)});
                        same.add(new int[] {things++, of.get(1)});
                    }
                    case "left", "right" -> {
                        made.add(new int[] {of.get(0), things, things + 1});
                        same.add(new int[] {line.op.equals("left") ? things : things + 1, x});
                        things += 2;
                    }
                    case "pick" -> {
                        same.add(new int[] {x, of.get(1)});
                        same.add(new int[] {x, of.get(2)});
                    }
                    case "call", "when" -> {
                        Fun called = funs.get(line.called);
                        for (int k = 0; k < of.size(); k++) {
                            same.add(new int[] {of.get(k), thing.get(List.of(line.called, k))});
                        }
                        same.add(new int[] {x, thing.get(List.of(line.called, called.vars.size() - 1))});
                        if (line.op.equals("when")) {
                            same.add(new int[] {x, thing.get(List.of(f, line.otherwise))});
                        }
                    }
                    default -> { }
                }
            }
        }
        int[] label = labels(things, same, made);
        Map<Integer, Integer> numbers = new HashMap<>();
        for (int f = 0; f < funs.size(); f++) {
            for (int v = 0; v < funs.get(f).vars.size(); v++) {
                number(label, made, label[thing.get(List.of(f, v))], numbers);
            }
        }
        plan.regions = numbers.size();
        for (Map.Entry<List<Integer>, Integer> e : thing.entrySet()) {
            plan.points.put(e.getKey(), numbers.getOrDefault(label[e.getValue()], -1));
        }
        plan.left = new ArrayList<>(Collections.nCopies(plan.regions, -1));
        plan.right = new ArrayList<>(Collections.nCopies(plan.regions, -1));
        for (int[] m : made) {
            int r = numbers.get(label[m[0]]);
            plan.left.set(r, numbers.getOrDefault(label[m[1]], -1));
            plan.right.set(r, numbers.getOrDefault(label[m[2]], -1));
        }
        owners(plan);
        return plan;
    }

    private static int[] labels(int things, List<int[]> same, List<int[]> made) {
        int[] label = new int[things];
        for (int i = 0; i < things; i++) {
            label[i] = i;
        }
        boolean changed = true;
        while (changed) {
            List<int[]> must = new ArrayList<>(same);
            for (int[] a : made) {
                for (int[] b : made) {
                    if (label[a[0]] == label[b[0]]) {
                        must.add(new int[] {a[1], b[1]});
                        must.add(new int[] {a[2], b[2]});
                    }
                }
            }
            changed = false;
            for (int[] pair : must) {
                int from = label[pair[0]];
                int to = label[pair[1]];
                if (from != to) {
                    changed = true;
                    for (int i = 0; i < things; i++) {
                        label[i] = label[i] == from ? to : label[i];
                    }
                }
            }
        }
        return label;
    }

    private static void number(int[] label, List<int[]> made, int one, Map<Integer, Integer> numbers) {
        if (numbers.containsKey(one)) {
            return;
        }
        for (int[] m : made) {
            if (label[m[0]] == one) {
                numbers.put(one, numbers.size());
                number(label, made, label[m[1]], numbers);
                number(label, made, label[m[2]], numbers);
                return;
            }
        }
    }

    private static void owners(Plan plan) {
        for (int f = 0; f < plan.funs.size(); f++) {
            Fun fun = plan.funs.get(f);
            Set<Integer> outer = new TreeSet<>(plan.reach(f, fun.vars.size() - 1));
            for (int v = 0; v < fun.parameters; v++) {
                outer.addAll(plan.reach(f, v));
            }
            Set<Integer> owns = new TreeSet<>();
            for (int v = 0; v < fun.vars.size(); v++) {
                owns.addAll(plan.reach(f, v));
            }
            owns.removeAll(outer);
            plan.outer.add(outer);
            plan.owns.add(owns);
        }
    }

    // ---------------------------------------------------------------- the machine

    static final class Cell {
        int number;
        Room room;
        Object left;
        Object right;
    }

    static final class Room {
        int region;
        List<Cell> cells = new ArrayList<>();
    }

    static final class Frame {
        int fun;
        int line = 0;
        Object[] vars;
    }

    static final class Machine {
        final Plan plan;
        int state = 0;
        int why = 0;
        int most = 0;
        int steps = 0;
        int laid = 0;
        int left = 0;
        int worstDrag = 0;
        Object result = null;
        List<Frame> frames = new ArrayList<>();
        List<Room> rooms = new ArrayList<>();
        Cell[] cells = new Cell[200];

        Machine(Plan plan) {
            this.plan = plan;
        }

        void load(int[] numbers) {
            state = 1;
            for (int r : plan.outer.get(plan.main())) {
                addRoom(r);
            }
            Object[] values = new Object[numbers.length];
            for (int i = 0; i < numbers.length; i++) {
                values[i] = numbers[i];
            }
            addFrame(plan.main(), values);
        }

        void addRoom(int r) {
            Room room = new Room();
            room.region = r;
            rooms.add(room);
        }

        void addFrame(int f, Object[] values) {
            Frame frame = new Frame();
            frame.fun = f;
            frame.vars = Arrays.copyOf(values, plan.funs.get(f).vars.size());
            frames.add(frame);
        }

        Frame latest() {
            return frames.isEmpty() ? null : frames.get(frames.size() - 1);
        }

        int cellCount() {
            int n = 0;
            for (Room room : rooms) {
                n += room.cells.size();
            }
            return n;
        }

        Room latestRoom(int r) {
            Room found = null;
            for (Room room : rooms) {
                found = room.region == r ? room : found;
            }
            return found;
        }

        void step() {
            Frame frame = latest();
            Line line = plan.funs.get(frame.fun).lines.get(frame.line);
            for (int r : plan.owns.get(frame.fun)) {
                if (plan.span(frame.fun, r)[0] == frame.line) {
                    addRoom(r);
                }
            }
            List<Object> of = new ArrayList<>();
            for (int v : line.of) {
                of.add(frame.vars[v]);
            }
            boolean called = line.op.equals("call")
                || line.op.equals("when") && !Integer.valueOf(0).equals(frame.vars[line.test]);
            why = reason(frame, line, of, called);
            steps++;
            if (why != 0) {
                state = 3;
            } else if (called) {
                if (plan.leaves(frame.fun, frame.line)) {
                    frames.remove(frames.size() - 1);
                    left++;
                }
                addFrame(line.called, of.toArray());
            } else {
                give(worth(frame, line, of));
            }
            worstDrag = Math.max(worstDrag, cellCount() - reached().size());
        }

        int reason(Frame frame, Line line, List<Object> of, boolean called) {
            TreeSet<Integer> all = new TreeSet<>();
            if ((line.op.equals("left") || line.op.equals("right")) && of.get(0) instanceof Integer) {
                all.add(1);
            }
            if ((line.op.equals("sum") || line.op.equals("less"))
                && (of.get(0) instanceof Cell || of.get(1) instanceof Cell)) {
                all.add(2);
            }
            if (line.op.equals("pick") && of.get(0) instanceof Cell) {
                all.add(2);
            }
            if (line.op.equals("when") && frame.vars[line.test] instanceof Cell) {
                all.add(2);
            }
            if (called && frames.size() == 12 && !plan.leaves(frame.fun, frame.line)) {
                all.add(3);
            }
            if (line.op.equals("pair") && cellCount() == 200) {
                all.add(4);
            }
            if (steps >= 5000) {
                all.add(5);
            }
            return all.isEmpty() ? 0 : all.first();
        }

        Object worth(Frame frame, Line line, List<Object> of) {
            switch (line.op) {
                case "number":
                    return line.number;
                case "same":
                    return of.get(0);
                case "pair":
                    return lay(plan.points.get(List.of(frame.fun, plan.funs.get(frame.fun).x(frame.line))), of);
                case "left":
                    return ((Cell) of.get(0)).left;
                case "right":
                    return ((Cell) of.get(0)).right;
                case "sum":
                    return (Integer) of.get(0) + (Integer) of.get(1);
                case "less":
                    return (Integer) of.get(0) < (Integer) of.get(1) ? 1 : 0;
                case "pick":
                    return (Integer) of.get(0) != 0 ? of.get(1) : of.get(2);
                default:
                    return frame.vars[line.otherwise];
            }
        }

        Cell lay(int r, List<Object> of) {
            Cell cell = new Cell();
            while (cells[cell.number] != null) {
                cell.number++;
            }
            cells[cell.number] = cell;
            cell.room = latestRoom(r);
            cell.room.cells.add(cell);
            cell.left = of.get(0);
            cell.right = of.get(1);
            laid++;
            most = Math.max(most, cellCount());
            return cell;
        }

        void give(Object x) {
            if (x == null) {
                throw new IllegalStateException("a LINE without a VALUE");
            }
            Frame frame = latest();
            if (frame == null) {
                state = 2;
                result = x;
                return;
            }
            Fun fun = plan.funs.get(frame.fun);
            frame.vars[fun.x(frame.line)] = x;
            for (int r : plan.owns.get(frame.fun)) {
                if (plan.span(frame.fun, r)[1] == frame.line) {
                    Room room = latestRoom(r);
                    rooms.remove(room);
                    for (Cell c : room.cells) {
                        cells[c.number] = null;
                    }
                    for (int v = 0; v < frame.vars.length; v++) {
                        if (plan.reach(frame.fun, v).contains(r)) {
                            frame.vars[v] = null;
                        }
                    }
                }
            }
            frame.line++;
            if (frame.line == fun.lines.size()) {
                frames.remove(frames.size() - 1);
                give(x);
            }
        }

        Set<Cell> reached() {
            Set<Cell> all = Collections.newSetFromMap(new IdentityHashMap<>());
            for (Frame frame : frames) {
                for (Object v : frame.vars) {
                    visit(v, all);
                }
            }
            visit(result, all);
            for (Cell c : all) {
                if (cells[c.number] != c) {
                    throw new IllegalStateException("a CELL that is away is REACHED");
                }
            }
            return all;
        }

        private void visit(Object v, Set<Cell> all) {
            if (v instanceof Cell c && all.add(c)) {
                visit(c.left, all);
                visit(c.right, all);
            }
        }
    }

    // ---------------------------------------------------------------- the face

    /** What an image keeps: texts, and what was done since. */
    static final class Kept {
        String program = "";
        String sentence = null;
        List<int[]> done = new ArrayList<>();

        Kept copy() {
            Kept k = new Kept();
            k.program = program;
            k.sentence = sentence;
            k.done = new ArrayList<>(done);
            return k;
        }
    }

    private String tape = "";
    private int fault = 0;
    private Kept own = new Kept();
    private Plan plan = plan(new ArrayList<>());
    private Machine machine = new Machine(plan);
    private int undoable = 0;
    private final Kept[] images = new Kept[2];
    private Machine last = null;

    private String take() {
        String taken = tape;
        tape = "";
        return taken;
    }

    int feed(int... numbers) {
        if (tape.length() > 920) {
            return -1;
        }
        StringBuilder more = new StringBuilder(tape);
        for (int n : numbers) {
            more.append((char) (n >>> 24)).append((char) (n >> 16 & 255)).append((char) (n >> 8 & 255))
                .append((char) (n & 255));
        }
        tape = more.toString();
        return tape.length();
    }

    boolean end(int n) {
        if (n < 0 || n > tape.length()) {
            return false;
        }
        tape = tape.substring(0, n);
        return true;
    }

    int program() {
        String text = take();
        try {
            List<Fun> funs = parseProgram(text);
            plan = plan(funs);
            own = new Kept();
            own.program = text;
            replay();
            undoable = 0;
            fault = 0;
            int lines = funs.size();
            for (Fun f : funs) {
                lines += f.lines.size();
            }
            return lines;
        } catch (Fault f) {
            fault = f.kind;
            return -1 - f.place;
        }
    }

    /** A load is its numbers; steps are {-1, how many}. */
    private void replay() {
        machine = new Machine(plan);
        for (int[] act : own.done) {
            if (act.length == 2 && act[0] == -1) {
                for (int i = 0; i < act[1]; i++) {
                    machine.step();
                }
            } else {
                machine = new Machine(plan);
                machine.load(act);
            }
        }
    }

    int fault() {
        return fault;
    }

    private static int bits(Set<Integer> set) {
        int all = 0;
        for (int i : set) {
            all |= 1 << i;
        }
        return all;
    }

    private boolean isFun(int f) {
        return f >= 0 && f < plan.funs.size();
    }

    private boolean isRegion(int r) {
        return r >= 0 && r < plan.regions;
    }

    int fun(int f, int what) {
        if (!isFun(f) || what < 0 || what > 5) {
            throw new NoSuchElementException();
        }
        Fun fun = plan.funs.get(f);
        Set<Integer> calls = new TreeSet<>();
        for (Line line : fun.lines) {
            if (line.calls()) {
                calls.add(line.called);
            }
        }
        int end = fun.lines.size() - 1;
        int leaves = fun.lines.get(end).calls() && plan.leaves(f, end) ? 1 : 0;
        return new int[] {fun.parameters, fun.lines.size(), bits(calls), bits(plan.outer.get(f)),
            bits(plan.owns.get(f)), leaves}[what];
    }

    int points(int f, int v) {
        return plan.points.getOrDefault(List.of(f, v), -1);
    }

    int region(int r, int what) {
        if (!isRegion(r) || what < 0 || what > 6) {
            return -1;
        }
        Set<Integer> owners = new TreeSet<>();
        Set<Integer> fillers = new TreeSet<>();
        for (int f = 0; f < plan.funs.size(); f++) {
            if (plan.owns.get(f).contains(r)) {
                owners.add(f);
            }
            if (plan.fills(f, r)) {
                fillers.add(f);
            }
        }
        return new int[] {plan.left.get(r), plan.right.get(r), bits(owners), bits(fillers),
            plan.finite(r) ? 1 : 0, roomsOf(r), cellsOf(r)}[what];
    }

    private int roomsOf(int r) {
        return (int) machine.rooms.stream().filter(room -> room.region == r).count();
    }

    private int cellsOf(int r) {
        return machine.rooms.stream().filter(room -> room.region == r).mapToInt(room -> room.cells.size()).sum();
    }

    int span(int f, int r, int what) {
        if (!isFun(f) || !plan.owns.get(f).contains(r) || what < 0 || what > 1) {
            return -1;
        }
        return plan.span(f, r)[what];
    }

    private int[] numbers() {
        String text = take();
        if (plan.funs.isEmpty() || text.length() != plan.funs.get(plan.main()).parameters) {
            return null;
        }
        return text.chars().toArray();
    }

    boolean load() {
        int[] numbers = numbers();
        if (numbers == null) {
            return false;
        }
        own.done.add(numbers);
        undoable = Math.min(8, undoable + 1);
        machine = new Machine(plan);
        machine.load(numbers);
        return true;
    }

    int steps(int n) {
        if (n < 1 || n > 500) {
            return -1;
        }
        int made = 0;
        while (made < n && machine.state == 1) {
            machine.step();
            made++;
        }
        if (made > 0) {
            own.done.add(new int[] {-1, made});
            undoable = Math.min(8, undoable + 1);
        }
        return made;
    }

    int now(int what) {
        Frame f = machine.latest();
        switch (what) {
            case 0: return machine.state;
            case 1: return machine.why;
            case 2: return machine.frames.size();
            case 3: return f == null ? -1 : f.fun;
            case 4: return f == null ? -1 : f.line;
            case 5: return machine.cellCount();
            case 6: return machine.rooms.size();
            case 7: return machine.most;
            case 8: return machine.steps;
            case 9: return machine.laid;
            case 10: return machine.left;
            default: return -1;
        }
    }

    private static int kindOf(Object v) {
        return v == null ? 0 : v instanceof Integer ? 1 : 2;
    }

    private static int numberOf(Object v) {
        if (v == null) {
            throw new NoSuchElementException();
        }
        return v instanceof Cell c ? c.number : (Integer) v;
    }

    private boolean isVar(int k, int v) {
        return k >= 0 && k < machine.frames.size() && v >= 0 && v < machine.frames.get(k).vars.length;
    }

    int kind(int k, int v) {
        return isVar(k, v) ? kindOf(machine.frames.get(k).vars[v]) : -1;
    }

    int value(int k, int v) {
        return numberOf(isVar(k, v) ? machine.frames.get(k).vars[v] : null);
    }

    private Cell cellOf(int c) {
        return c >= 0 && c < 200 ? machine.cells[c] : null;
    }

    int cell(int c, int what) {
        Cell cell = cellOf(c);
        if (cell == null || what < 0 || what > 2) {
            return -1;
        }
        return new int[] {cell.room.region, kindOf(cell.left), kindOf(cell.right)}[what];
    }

    int in(int c, int side) {
        Cell cell = cellOf(c);
        if (cell == null || side < 0 || side > 1) {
            throw new NoSuchElementException();
        }
        return numberOf(side == 0 ? cell.left : cell.right);
    }

    int gave() {
        return kindOf(machine.result);
    }

    int result() {
        return numberOf(machine.result);
    }

    private boolean isRoom(int k) {
        return k >= 0 && k < machine.rooms.size();
    }

    int room(int k) {
        return isRoom(k) ? machine.rooms.get(k).region : -1;
    }

    int roomful(int k) {
        return isRoom(k) ? machine.rooms.get(k).cells.size() : -1;
    }

    int reached() {
        return machine.reached().size();
    }

    int isReached(int c) {
        Cell cell = cellOf(c);
        return cell == null ? -1 : machine.reached().contains(cell) ? 1 : 0;
    }

    int drag() {
        return machine.cellCount() - reached();
    }

    private Machine runAll(int[] numbers) {
        Machine m = new Machine(plan);
        m.load(numbers);
        while (m.state == 1) {
            m.step();
        }
        return m;
    }

    int run() {
        int[] numbers = numbers();
        if (numbers == null) {
            return -1;
        }
        last = runAll(numbers);
        return last.state;
    }

    int ran(int what) {
        if (last == null || what < 0 || what > 7) {
            return -1;
        }
        int number = last.result instanceof Integer i ? i : 0;
        return new int[] {last.steps, last.most, last.cellCount(), last.laid, last.why, kindOf(last.result),
            number, last.worstDrag}[what];
    }

    int odds(int n, int seed) {
        if (n < 1 || n > 20 || plan.funs.isEmpty()) {
            return -1;
        }
        int ends = 0;
        for (int i = 0; i < n; i++) {
            int x = seed + i;
            int[] numbers = new int[plan.funs.get(plan.main()).parameters];
            for (int k = 0; k < numbers.length; k++) {
                x = x * 1103515245 + 12345;
                numbers[k] = (x >>> 8) % 10;
            }
            ends += runAll(numbers).state == 2 ? 1 : 0;
        }
        return ends;
    }

    int undo() {
        if (undoable == 0) {
            return -1;
        }
        undoable--;
        own.done.remove(own.done.size() - 1);
        replay();
        return undoable;
    }

    boolean image(int k) {
        if (k < 0 || k > 1) {
            return false;
        }
        images[k] = own.copy();
        return true;
    }

    boolean restore(int k) {
        if (k < 0 || k > 1 || images[k] == null) {
            return false;
        }
        own = images[k].copy();
        try {
            plan = plan(parseProgram(own.program));
        } catch (Fault f) {
            throw new IllegalStateException("a kept PROGRAM has a FAULT");
        }
        replay();
        undoable = 0;
        return true;
    }

    int count(int what) {
        int lines = 0;
        for (Fun f : plan.funs) {
            lines += f.lines.size();
        }
        int finite = 0;
        for (int r = 0; r < plan.regions; r++) {
            finite += plan.finite(r) ? 1 : 0;
        }
        return what < 0 || what > 4 ? -1
            : new int[] {plan.funs.size(), lines, plan.regions, finite, tape.length()}[what];
    }

    // ---------------------------------------------------------------- sentences: read anew for each REGION

    private int ones;

    int sentence() {
        String text = take();
        try {
            judge(text, -1);
            own.sentence = text;
            fault = 0;
            return ones;
        } catch (Fault f) {
            fault = f.kind;
            return -1 - f.place;
        }
    }

    int said(int k) {
        if (own.sentence == null || k < -1) {
            return -1;
        }
        List<Integer> all = new ArrayList<>();
        for (int r = 0; r < plan.regions; r++) {
            try {
                if (judge(own.sentence, r)) {
                    all.add(r);
                }
            } catch (Fault f) {
                throw new IllegalStateException("a kept SENTENCE has a FAULT");
            }
        }
        return k == -1 ? all.size() : k < all.size() ? all.get(k) : -1;
    }

    private boolean judge(String text, int r) throws Fault {
        ones = 0;
        ArrayDeque<Token> in = tokens(text, 200);
        boolean answer = cond(in, r, 1);
        need(in, in.peek().sort == 'e');
        return answer;
    }

    private boolean cond(ArrayDeque<Token> in, int r, int depth) throws Fault {
        boolean answer = all(in, r, depth);
        while (in.peek().is("or")) {
            in.poll();
            answer |= all(in, r, depth);
        }
        return answer;
    }

    private boolean all(ArrayDeque<Token> in, int r, int depth) throws Fault {
        boolean answer = one(in, r, depth);
        while (in.peek().is("and")) {
            in.poll();
            answer &= one(in, r, depth);
        }
        return answer;
    }

    private boolean one(ArrayDeque<Token> in, int r, int depth) throws Fault {
        Set<String> firsts = Set.of("not", "(", "finite", "outer", "live", "owned", "filled", "cells", "rooms",
            "number");
        Token t = need(in, firsts.contains(in.peek().text) && in.peek().sort != 'b');
        ones++;
        if (ones > 20 || depth > 8) {
            throw new Fault(4, t.place);
        }
        switch (t.text) {
            case "not":
                return !one(in, r, depth + 1);
            case "(":
                boolean inner = cond(in, r, depth + 1);
                need(in, in.peek().is(")"));
                return inner;
            case "finite":
                return r >= 0 && plan.finite(r);
            case "outer":
                return r >= 0 && plan.outer.get(plan.main()).contains(r);
            case "live":
                return roomsOf(r) > 0;
            case "owned":
                return plan.owns.get(parseFunName(in, plan.funs)).contains(r);
            case "filled":
                return plan.fills(parseFunName(in, plan.funs), r);
            default:
                int measured = t.text.equals("cells") ? cellsOf(r) : t.text.equals("rooms") ? roomsOf(r) : r;
                Token sign = need(in, Set.of("<", "=", ">").contains(in.peek().text));
                Token number = need(in, in.peek().sort == 'n');
                int against = Integer.parseInt(number.text);
                return sign.is("<") ? measured < against : sign.is(">") ? measured > against : measured == against;
        }
    }
}
