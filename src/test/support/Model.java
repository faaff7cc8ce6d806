import java.util.ArrayDeque;
import java.util.ArrayList;
import java.util.Arrays;
import java.util.Comparator;
import java.util.Deque;
import java.util.HashMap;
import java.util.LinkedHashMap;
import java.util.List;
import java.util.Map;

/**
 * A second reading of the document, written for shortness with all of the Java library and built in another way than the
 * class (trees of text, a stack of blocks for each task, exceptions for faults and signals), to be compared with it.
 */
final class Model {
    static final int NONE = -1, BAD = -2, STATE = -3, FULL = -4;
    private static final int MOST = 2147483647, BY_IRPT = -2000000000;

    /** A fault of a text. */
    static final class Fault extends RuntimeException {
        private static final long serialVersionUID = 1;
        final int number;
        final int place;

        Fault(int ofNumber, int ofPlace) {
            number = ofNumber;
            place = ofPlace;
        }
    }

    /** A signal of a run. */
    private static final class Signal extends RuntimeException {
        private static final long serialVersionUID = 1;
        final int number;

        Signal(int ofNumber) {
            number = ofNumber;
        }
    }

    static final class Block {
        final Map<Integer, Block> ons = new HashMap<>();
        final List<Statement> body = new ArrayList<>();
    }

    static final class Statement {
        String kind = "";
        int number = 0;
        String name = null;
        String second = null;
        String when = "";
        final List<String> names = new ArrayList<>();
        final List<Expression> expressions = new ArrayList<>();
        Block block = null;
        Block other = null;
    }

    static final class Expression {
        final String op;
        final long number;
        final String name;
        final Expression left;
        final Expression right;

        Expression(String ofOp, long ofNumber, String ofName, Expression ofLeft, Expression ofRight) {
            op = ofOp;
            number = ofNumber;
            name = ofName;
            left = ofLeft;
            right = ofRight;
        }
    }

    static final class Proc {
        final List<String> parameters = new ArrayList<>();
        Block block = null;
    }

    /** A block under way; what stands in its place is another block once a signal has met one of its reactions. */
    private static final class Frame {
        final String kind;
        final Map<String, Integer> given = new HashMap<>();
        Block block;
        int index = 0;

        Frame(String ofKind, Block ofBlock) {
            kind = ofKind;
            block = ofBlock;
        }
    }

    private static final class Task {
        int told = 0;
        boolean main = false;
        Block block = null;
        int state = 0;
        int priority = 0;
        int kept = 0;
        int lost = 0;
        int began = 0;
        int ended = 0;
        int latest = 0;
        int ready = 0;
        int since = 0;
        final List<Frame> frames = new ArrayList<>();

        boolean waits() {
            return state == 3 || state == 4;
        }

        Frame top() {
            return frames.get(frames.size() - 1);
        }

        Statement next() {
            return top().block.body.get(top().index);
        }

        int procs() {
            return (int) frames.stream().filter(f -> f.kind.equals("proc")).count();
        }
    }

    private static final class Schedule {
        int time = 0;
        int span = 0;
        int until = MOST;
        int irpt = NONE;
    }

    private final List<Map<String, Integer>> told;
    private final int statements;
    private final int nodes;
    private final List<Proc> procs;
    private final List<Task> tasks;
    private final List<Integer> varStart;
    private final List<Integer> semaStart;
    private final int[] vars = new int[8];
    private final int[][] rows = new int[4][];
    private final int[] semas = new int[4];
    private final int[] reserver = {NONE, NONE, NONE, NONE};
    private final int[][] entered = new int[4][8];
    private final boolean[] enabled = {true, true, true, true};
    private final boolean[] kept = new boolean[4];
    private final int[] came = new int[4];
    private final List<Deque<Integer>> ins = new ArrayList<>();
    private final List<List<Integer>> outs = new ArrayList<>();
    private final Map<Integer, Schedule> schedules = new LinkedHashMap<>();
    private final List<Integer> log = new ArrayList<>();
    private final List<int[]> induced = new ArrayList<>();
    private final int processors;
    private int time = 0;
    private int grains = 0;
    private int done = 0;
    private int reactions = 0;
    private int begun = 0;
    private int over = 0;
    private int turn = 0;

    /** A run of a text that has just begun; a Fault, if it has one. */
    Model(String text, int withProcessors) {
        Reading reading = new Reading(text);
        told = reading.told;
        statements = reading.statements;
        nodes = reading.nodes;
        procs = reading.procs;
        tasks = reading.tasks;
        varStart = reading.varStart;
        semaStart = reading.semaStart;
        processors = withProcessors;
        for (int i = 0; i < varStart.size(); i++) {
            vars[i] = varStart.get(i);
        }
        for (int i = 0; i < semaStart.size(); i++) {
            semas[i] = semaStart.get(i);
        }
        for (int i = 0; i < 4; i++) {
            ins.add(new ArrayDeque<>());
            outs.add(new ArrayList<>());
        }
        for (Task t : tasks) {
            if (t.main) {
                awaken(t);
            }
        }
    }

    // ---- the text

    private static final class Reading {
        private static final List<String> WORDS = Arrays.asList(("var row sema bolt irpt in out proc task main on any do return if else while make same lose ask give reserve free enter leave"
            + " start go end hold prior prevent induce take put pull enable disable log at after all until when size time state").split(" "));
        private static final String LETTERS = "abcdefghijklmnopqrstuvwxyz", FIGURES = "0123456789";
        private static final int[] LIMITS = {8, 4, 4, 4, 4, 4, 4, 6, 8};
        private final String text;
        private final List<int[]> uses = new ArrayList<>();
        private final List<String> usedNames = new ArrayList<>();
        private final List<Proc> usedIn = new ArrayList<>();
        private final List<Object[]> calls = new ArrayList<>();
        final List<Map<String, Integer>> told = new ArrayList<>();
        final List<Proc> procs = new ArrayList<>();
        final List<Task> tasks = new ArrayList<>();
        final List<Integer> varStart = new ArrayList<>();
        final List<Integer> semaStart = new ArrayList<>();
        int statements = 0;
        int nodes = 0;
        private Proc proc = null;
        private int depth = 0;
        private int start = 0;
        private int end = 0;
        private String token = "";

        Reading(String ofText) {
            text = ofText;
            for (int sort = 0; sort < 9; sort++) {
                told.add(new LinkedHashMap<>());
            }
            advance();
            while (!token.isEmpty()) {
                declaration();
            }
            judge();
        }

        private void advance() {
            start = end;
            while (start < text.length() && (text.charAt(start) == ' ' || text.charAt(start) == '\n')) {
                start++;
            }
            end = start;
            if (start < text.length()) {
                char head = text.charAt(start);
                String more = LETTERS.indexOf(head) >= 0 ? LETTERS + FIGURES : FIGURES.indexOf(head) >= 0 ? FIGURES : "";
                do {
                    end++;
                } while (end < text.length() && more.indexOf(text.charAt(end)) >= 0);
            }
            token = text.substring(start, end);
        }

        private boolean wrong() {
            boolean named = begins(LETTERS) && token.length() <= 8;
            return !token.isEmpty() && !named && !isNumber() && (begins(LETTERS + FIGURES) || !"(){}[],;=<>+-*/%".contains(token));
        }

        private boolean begins(String with) {
            return !token.isEmpty() && with.indexOf(token.charAt(0)) >= 0;
        }

        private Fault fault(int number) {
            return new Fault(wrong() ? 1 : number, start);
        }

        private boolean isName() {
            return begins(LETTERS) && token.length() <= 8 && !WORDS.contains(token);
        }

        private boolean isNumber() {
            return begins(FIGURES) && token.length() <= 9;
        }

        private boolean accept(String wanted) {
            boolean there = token.equals(wanted);
            if (there) {
                advance();
            }
            return there;
        }

        private void want(String wanted) {
            if (!accept(wanted)) {
                throw fault(2);
            }
        }

        private String name() {
            if (!isName()) {
                throw fault(2);
            }
            String name = token;
            advance();
            return name;
        }

        private int number(int low, int high) {
            if (!isNumber()) {
                throw fault(2);
            }
            int number = Integer.parseInt(token);
            if (number < low || number > high) {
                throw fault(5);
            }
            advance();
            return number;
        }

        private void deeper(String sign) {
            if (!token.equals(sign)) {
                throw fault(2);
            }
            if (depth == 12) {
                throw fault(3);
            }
            depth++;
            advance();
        }

        private void shallower(String sign) {
            want(sign);
            depth--;
        }

        private void declaration() {
            int sort = WORDS.indexOf(token);
            if (sort < 0 || sort > 8) {
                throw fault(2);
            }
            advance();
            if (!isName()) {
                throw fault(2);
            }
            int many = sort == 5 || sort == 6 ? told.get(5).size() + told.get(6).size() : told.get(sort).size();
            if (many == LIMITS[sort]) {
                throw fault(3);
            }
            for (Map<String, Integer> of : told) {
                if (of.containsKey(token)) {
                    throw fault(4);
                }
            }
            told.get(sort).put(token, told.get(sort).size());
            advance();
            if (sort == 7) {
                readProc();
            } else if (sort == 8) {
                Task t = new Task();
                t.told = number(1, 9);
                t.main = accept("main");
                t.block = block();
                tasks.add(t);
            } else {
                if (sort == 0) {
                    boolean set = accept("=");
                    int sign = set && accept("-") ? -1 : 1;
                    varStart.add(set ? sign * number(0, MOST) : 0);
                } else if (sort == 2) {
                    semaStart.add(number(0, 9));
                }
                want(";");
            }
        }

        private void readProc() {
            proc = new Proc();
            procs.add(proc);
            want("(");
            if (!token.equals(")")) {
                do {
                    if (!isName()) {
                        throw fault(2);
                    }
                    if (proc.parameters.size() == 3) {
                        throw fault(3);
                    }
                    if (proc.parameters.contains(token)) {
                        throw fault(4);
                    }
                    proc.parameters.add(name());
                } while (accept(","));
            }
            want(")");
            proc.block = block();
            proc = null;
        }

        private Block block() {
            deeper("{");
            Block block = new Block();
            while (accept("on")) {
                int signal = 0;
                if (!token.equals("any")) {
                    if (!isNumber()) {
                        throw fault(2);
                    }
                    signal = Integer.parseInt(token);
                    if (signal < 1 || signal > 19) {
                        throw fault(5);
                    }
                }
                if (block.ons.containsKey(signal)) {
                    throw fault(5);
                }
                advance();
                block.ons.put(signal, block());
            }
            while (!token.equals("}")) {
                block.body.add(statement());
            }
            shallower("}");
            return block;
        }

        private String use(int... sorts) {
            uses.add(new int[] {start, Arrays.stream(sorts).map(s -> 1 << s).sum()});
            usedIn.add(proc);
            usedNames.add(name());
            return usedNames.get(usedNames.size() - 1);
        }

        private Statement statement() {
            boolean starts = isName() || WORDS.indexOf(token) >= WORDS.indexOf("do") && WORDS.indexOf(token) <= WORDS.indexOf("when");
            if (!starts || token.equals("else") || token.equals("until") || token.equals("return") && proc == null) {
                throw fault(2);
            }
            if (statements == 200) {
                throw fault(3);
            }
            Statement s = new Statement();
            s.number = statements++;
            s.kind = isName() ? "=" : token;
            if (isName()) {
                setting(s);
            } else {
                advance();
                behindWord(s);
            }
            if (!s.kind.equals("if") && !s.kind.equals("while")) {
                want(";");
            }
            return s;
        }

        private boolean bracketFollows() {
            int rest = end;
            while (rest < text.length() && (text.charAt(rest) == ' ' || text.charAt(rest) == '\n')) {
                rest++;
            }
            return text.startsWith("[", rest);
        }

        private void setting(Statement s) {
            if (bracketFollows()) {
                s.kind = "[";
                s.name = use(1);
                deeper("[");
                s.expressions.add(expression());
                shallower("]");
                want("=");
                s.expressions.add(expression());
                return;
            }
            s.name = use(0, 9);
            want("=");
            if (accept("do")) {
                s.kind = "do";
                call(s);
            } else {
                s.expressions.add(expression());
            }
        }

        private void call(Statement s) {
            int at = start;
            s.second = use(7);
            want("(");
            if (!token.equals(")")) {
                do {
                    boolean begins = isName() || isNumber() || Arrays.asList("(", "-", "size", "time", "state").contains(token);
                    if (s.expressions.size() == 3 && begins) {
                        throw fault(3);
                    }
                    s.expressions.add(expression());
                } while (accept(","));
            }
            want(")");
            calls.add(new Object[] {at, s});
        }

        private void behindWord(Statement s) {
            switch (s.kind) {
                case "do":
                    call(s);
                    break;
                case "return": case "induce": case "log":
                    s.expressions.add(expression());
                    break;
                case "if": case "while":
                    s.expressions.add(expression());
                    s.block = block();
                    s.other = s.kind.equals("if") && accept("else") ? block() : null;
                    break;
                case "make":
                    s.name = use(1);
                    s.expressions.add(expression());
                    break;
                case "same":
                    s.name = use(1);
                    s.second = use(1);
                    break;
                case "lose":
                    s.name = use(1);
                    break;
                case "ask": case "give":
                    do {
                        if (s.names.size() == 4 && isName()) {
                            throw fault(3);
                        }
                        s.names.add(use(2));
                    } while (accept(","));
                    break;
                case "reserve": case "free": case "enter": case "leave":
                    s.name = use(3);
                    break;
                case "take":
                    s.name = use(5);
                    s.second = use(0);
                    break;
                case "put":
                    s.name = use(6);
                    s.expressions.add(expression());
                    break;
                case "pull": case "enable": case "disable":
                    s.name = use(4);
                    break;
                case "end":
                    s.name = token.equals(";") ? null : use(8);
                    break;
                case "prior":
                    s.name = use(8);
                    s.expressions.add(expression());
                    break;
                case "at": case "after": case "all": case "when":
                    timed(s);
                    break;
                default:
                    s.name = use(8);
                    break;
            }
        }

        private void timed(Statement s) {
            s.when = s.kind;
            if (s.when.equals("when")) {
                s.second = use(4);
            } else {
                s.expressions.add(expression());
                if (s.when.equals("all") && accept("until")) {
                    s.expressions.add(expression());
                }
            }
            if (!token.equals("start") && !token.equals("go")) {
                throw fault(2);
            }
            s.kind = token;
            advance();
            s.name = use(8);
        }

        private void node() {
            if (nodes == 400) {
                throw fault(3);
            }
            nodes++;
        }

        private Expression expression() {
            Expression left = chain("+-");
            if (token.equals("=") || token.equals("<") || token.equals(">")) {
                return two(left, "");
            }
            return left;
        }

        private Expression chain(String signs) {
            Expression left = signs.equals("+-") ? chain("*/%") : factor();
            while (!token.isEmpty() && signs.contains(token)) {
                left = two(left, signs);
            }
            return left;
        }

        private Expression two(Expression left, String level) {
            String sign = token;
            node();
            advance();
            return new Expression(sign, 0, null, left, level.isEmpty() ? chain("+-") : level.equals("+-") ? chain("*/%") : factor());
        }

        private Expression factor() {
            if (token.equals("(")) {
                deeper("(");
                Expression e = expression();
                shallower(")");
                return e;
            }
            boolean fit = isName() || isNumber() || Arrays.asList("-", "size", "time", "state").contains(token);
            if (!fit) {
                throw fault(2);
            }
            node();
            if (isNumber()) {
                return new Expression("number", number(0, MOST), null, null, null);
            }
            if (token.equals("-")) {
                deeper("-");
                Expression e = factor();
                depth--;
                return new Expression("negate", 0, null, e, null);
            }
            if (!isName()) {
                String word = token;
                advance();
                return new Expression(word, 0, word.equals("time") ? null : use(word.equals("size") ? 1 : 8), null, null);
            }
            if (!bracketFollows()) {
                return new Expression("name", 0, use(0, 9), null, null);
            }
            String row = use(1);
            deeper("[");
            Expression e = expression();
            shallower("]");
            return new Expression("[", 0, row, e, null);
        }

        private void judge() {
            for (int i = 0; i < uses.size(); i++) {
                int sort = NONE;
                for (int of = 0; of < 9; of++) {
                    sort = told.get(of).containsKey(usedNames.get(i)) ? of : sort;
                }
                if (usedIn.get(i) != null && usedIn.get(i).parameters.contains(usedNames.get(i))) {
                    sort = 9;
                }
                if (sort == NONE || (uses.get(i)[1] >> sort & 1) == 0) {
                    throw new Fault(6, uses.get(i)[0]);
                }
            }
            for (Object[] call : calls) {
                Statement s = (Statement) call[1];
                if (procs.get(told.get(7).get(s.second)).parameters.size() != s.expressions.size()) {
                    throw new Fault(7, (Integer) call[0]);
                }
            }
        }
    }

    // ---- the run

    private int number(int sort, String name) {
        return told.get(sort).get(name);
    }

    private Frame procOf(Task t) {
        for (int i = t.frames.size() - 1; i >= 0; i--) {
            if (t.frames.get(i).kind.equals("proc")) {
                return t.frames.get(i);
            }
        }
        return t.frames.get(0);
    }

    private void set(Task t, String name, int v) {
        if (name == null) {
            return;
        }
        if (procOf(t).given.containsKey(name)) {
            procOf(t).given.put(name, v);
        } else {
            vars[number(0, name)] = v;
        }
    }

    private int work(Task t, Expression e) {
        long v;
        switch (e.op) {
            case "number":
                v = e.number;
                break;
            case "name":
                v = procOf(t).given.containsKey(e.name) ? procOf(t).given.get(e.name) : vars[number(0, e.name)];
                break;
            case "time":
                v = time;
                break;
            case "state":
                v = tasks.get(number(8, e.name)).state;
                break;
            case "size":
                v = array(e.name).length;
                break;
            case "[":
                int i = work(t, e.left);
                v = array(e.name)[item(e.name, i)];
                break;
            case "negate":
                v = -(long) work(t, e.left);
                break;
            default:
                v = combine(e.op, work(t, e.left), work(t, e.right));
                break;
        }
        if (v < -2147483648L || v > MOST) {
            throw new Signal(5);
        }
        return (int) v;
    }

    private static long combine(String op, long left, long right) {
        if (right == 0 && (op.equals("/") || op.equals("%"))) {
            throw new Signal(4);
        }
        switch (op) {
            case "+": return left + right;
            case "-": return left - right;
            case "*": return left * right;
            case "/": return left / right;
            case "%": return left % right;
            case "=": return left == right ? 1 : 0;
            case "<": return left < right ? 1 : 0;
            default: return left > right ? 1 : 0;
        }
    }

    private int[] array(String row) {
        if (rows[number(1, row)] == null) {
            throw new Signal(1);
        }
        return rows[number(1, row)];
    }

    private int item(String row, int i) {
        if (i < 0 || i >= array(row).length) {
            throw new Signal(2);
        }
        return i;
    }

    /** -1: the run is still, -2: it has ended. */
    int grain() {
        while (true) {
            int due = NONE;
            for (int k = 0; k < 16; k++) {
                Schedule s = schedules.get(k);
                if (s != null && s.time != BY_IRPT && s.time <= time && (due == NONE || s.time < schedules.get(due).time)) {
                    due = k;
                }
            }
            if (due == NONE) {
                break;
            }
            Schedule s = schedules.get(due);
            long next = (long) s.time + s.span;
            if (s.span == 0 || next > s.until || next > 1000000000) {
                schedules.remove(due);
            } else {
                s.time = (int) next;
            }
            act(due);
            serve();
        }
        List<Task> ready = new ArrayList<>(tasks);
        ready.removeIf(t -> t.state != 1);
        ready.sort(Comparator.<Task>comparingInt(t -> t.priority).thenComparingInt(t -> t.ready));
        if (ready.isEmpty()) {
            int next = schedules.values().stream().filter(s -> s.time != BY_IRPT).mapToInt(s -> s.time).min().orElse(NONE);
            if (next == NONE) {
                return tasks.stream().allMatch(t -> t.state == 0) ? -2 : -1;
            }
            time = next;
        } else {
            for (Task t : ready.subList(0, Math.min(processors, ready.size()))) {
                if (t.state == 1) {
                    step(t);
                    serve();
                }
            }
            time++;
        }
        grains++;
        return 0;
    }

    private void step(Task t) {
        Statement s = t.next();
        done++;
        try {
            List<Integer> worked = new ArrayList<>();
            for (Expression e : s.expressions) {
                worked.add(work(t, e));
            }
            perform(t, s, worked);
        } catch (Signal signal) {
            meet(t, signal.number, s);
        }
    }

    private void pass(Task t) {
        t.top().index++;
        close(t);
    }

    /** Blocks that have nothing left are over. */
    private void close(Task t) {
        while (t.top().index >= t.top().block.body.size()) {
            Frame f = t.top();
            if (f.kind.equals("task")) {
                end(t);
                return;
            }
            if (f.kind.equals("proc")) {
                giveBack(t, 0);
                return;
            }
            t.frames.remove(f);
        }
    }

    private void giveBack(Task t, int v) {
        while (!t.top().kind.equals("proc")) {
            t.frames.remove(t.frames.size() - 1);
        }
        t.frames.remove(t.frames.size() - 1);
        over++;
        set(t, t.next().name, v);
        pass(t);
    }

    private void push(Task t, String kind, Block block) {
        t.frames.add(new Frame(kind, block));
        close(t);
    }

    private void meet(Task t, int signal, Statement s) {
        induced.add(new int[] {tasks.indexOf(t), signal, s.number});
        t.latest = signal;
        int at = t.frames.size() - 1;
        while (at >= 0 && !t.frames.get(at).block.ons.containsKey(signal) && !t.frames.get(at).block.ons.containsKey(0)) {
            at--;
        }
        if (at < 0) {
            end(t);
            return;
        }
        while (t.frames.size() - 1 > at) {
            over += t.top().kind.equals("proc") ? 1 : 0;
            t.frames.remove(t.frames.size() - 1);
        }
        reactions++;
        Map<Integer, Block> ons = t.top().block.ons;
        t.top().block = ons.containsKey(signal) ? ons.get(signal) : ons.get(0);
        t.top().index = 0;
        close(t);
    }

    private void perform(Task t, Statement s, List<Integer> worked) {
        int v = worked.isEmpty() ? 0 : worked.get(0);
        switch (s.kind) {
            case "=":
                set(t, s.name, v);
                break;
            case "[":
                array(s.name)[item(s.name, v)] = worked.get(1);
                break;
            case "do":
                if (t.procs() == 8) {
                    throw new Signal(6);
                }
                Frame f = new Frame("proc", procs.get(number(7, s.second)).block);
                for (int i = 0; i < worked.size(); i++) {
                    f.given.put(procs.get(number(7, s.second)).parameters.get(i), worked.get(i));
                }
                begun++;
                t.frames.add(f);
                close(t);
                return;
            case "return":
                giveBack(t, v);
                return;
            case "if":
                if (v != 0 || s.other != null) {
                    t.top().index++;
                    push(t, "if", v != 0 ? s.block : s.other);
                    return;
                }
                break;
            case "while":
                if (v != 0) {
                    push(t, "while", s.block);
                    return;
                }
                break;
            case "make":
                makeArray(number(1, s.name), v);
                break;
            case "same":
                rows[number(1, s.name)] = rows[number(1, s.second)];
                break;
            case "lose":
                rows[number(1, s.name)] = null;
                break;
            case "log":
                log.add(v);
                break;
            case "induce":
                throw new Signal(v < 1 || v > 19 ? 5 : v);
            case "ask": case "reserve": case "enter": case "take":
                t.since = ++turn;
                if (!can(t, s)) {
                    t.state = 3;
                    return;
                }
                have(t, s);
                break;
            default:
                if (actOn(t, s, v, worked)) {
                    return;
                }
                break;
        }
        pass(t);
    }

    private int made = 0;

    private void makeArray(int row, int size) {
        if (size < 0 || size > 20 || made == 4000) {
            throw new Signal(3);
        }
        made++;
        rows[row] = new int[size];
    }

    private static void bar(boolean barred, int signal) {
        if (barred) {
            throw new Signal(signal);
        }
    }

    /** Whether the task itself has ended. */
    private boolean actOn(Task t, Statement s, int v, List<Integer> worked) {
        int me = tasks.indexOf(t);
        switch (s.kind) {
            case "give":
                for (String name : s.names) {
                    bar(semas[number(2, name)] + s.names.stream().filter(name::equals).count() > 9, 8);
                }
                s.names.forEach(name -> semas[number(2, name)]++);
                return false;
            case "free":
                bar(reserver[number(3, s.name)] != me, 8);
                reserver[number(3, s.name)] = NONE;
                return false;
            case "leave":
                bar(entered[number(3, s.name)][me] == 0, 8);
                entered[number(3, s.name)][me]--;
                return false;
            case "put":
                bar(outs.get(number(6, s.name)).size() == 40, 8);
                outs.get(number(6, s.name)).add(v);
                return false;
            case "pull":
                arrive(number(4, s.name));
                return false;
            case "enable":
                enabled[number(4, s.name)] = true;
                if (kept[number(4, s.name)]) {
                    kept[number(4, s.name)] = false;
                    arrive(number(4, s.name));
                }
                return false;
            case "disable":
                enabled[number(4, s.name)] = false;
                return false;
            default:
                break;
        }
        Task o = s.name == null ? t : tasks.get(number(8, s.name));
        int which = 2 * tasks.indexOf(o) + (s.kind.equals("go") ? 1 : 0);
        switch (s.kind) {
            case "start": case "go":
                if (s.when.isEmpty()) {
                    bar(!act(which), 7);
                } else {
                    plan(s, which, worked);
                }
                return false;
            case "hold":
                bar(o.state != 1 && o.state != 3, 7);
                o.state++;
                return false;
            case "prior":
                bar(v < 1 || v > 9, 5);
                bar(o.state == 0, 7);
                o.priority = v;
                return false;
            case "prevent":
                schedules.remove(which);
                schedules.remove(which + 1);
                return false;
            default:
                bar(o.state == 0, 7);
                end(o);
                return o == t;
        }
    }

    private void plan(Statement s, int which, List<Integer> worked) {
        Schedule plan = new Schedule();
        if (s.when.equals("when")) {
            plan.time = BY_IRPT;
            plan.irpt = number(4, s.second);
        } else {
            long e = worked.get(0);
            long first = s.when.equals("at") ? e : time + e;
            plan.until = worked.size() > 1 ? worked.get(1) : MOST;
            bar(s.when.equals("at") ? e < time : e < 1, 9);
            bar(first > 1000000000 || plan.until < first, 9);
            plan.time = (int) first;
            plan.span = s.when.equals("all") ? (int) e : 0;
        }
        bar(!schedules.containsKey(which) && schedules.size() == 12, 7);
        schedules.put(which, plan);
    }

    private boolean act(int which) {
        Task t = tasks.get(which / 2);
        if (which % 2 == 1) {
            if (t.state == 2) {
                t.ready = ++turn;
            }
            boolean held = t.state == 2 || t.state == 4;
            t.state -= held ? 1 : 0;
            return held;
        }
        if (t.state == 0) {
            awaken(t);
        } else if (t.kept == 3) {
            t.lost++;
        } else {
            t.kept++;
        }
        return true;
    }

    private void awaken(Task t) {
        t.began++;
        t.state = 1;
        t.priority = t.told;
        t.ready = ++turn;
        t.frames.clear();
        push(t, "task", t.block);
    }

    private void end(Task t) {
        t.ended++;
        over += t.procs();
        t.frames.clear();
        t.state = 0;
        schedules.remove(2 * tasks.indexOf(t) + 1);
        if (t.kept > 0) {
            t.kept--;
            awaken(t);
        }
    }

    private int arrive(int i) {
        if (!enabled[i]) {
            kept[i] = true;
            return 0;
        }
        came[i]++;
        List<Integer> all = new ArrayList<>();
        for (int k = 0; k < 16; k++) {
            if (schedules.containsKey(k) && schedules.get(k).irpt == i) {
                all.add(k);
            }
        }
        all.sort(Comparator.comparingInt(k -> tasks.get(k / 2).state == 0 ? tasks.get(k / 2).told : tasks.get(k / 2).priority));
        for (int k : all) {
            if (schedules.containsKey(k)) {
                act(k);
                serve();
            }
        }
        return 1;
    }

    private boolean ahead(Task o, Task t) {
        return o.priority < t.priority || o.priority == t.priority && o.since < t.since;
    }

    private boolean can(Task t, Statement s) {
        switch (s.kind) {
            case "ask":
                return s.names.stream().allMatch(name -> semas[number(2, name)] >= s.names.stream().filter(name::equals).count());
            case "take":
                return !ins.get(number(5, s.name)).isEmpty();
            case "reserve":
                return reserver[number(3, s.name)] == NONE && Arrays.stream(entered[number(3, s.name)]).sum() == 0;
            default:
                return reserver[number(3, s.name)] == NONE
                    && tasks.stream().noneMatch(o -> o.waits() && o.next().kind.equals("reserve") && o.next().name.equals(s.name) && ahead(o, t));
        }
    }

    private void have(Task t, Statement s) {
        switch (s.kind) {
            case "ask":
                s.names.forEach(name -> semas[number(2, name)]--);
                break;
            case "take":
                vars[number(0, s.second)] = ins.get(number(5, s.name)).removeFirst();
                break;
            case "reserve":
                reserver[number(3, s.name)] = tasks.indexOf(t);
                break;
            default:
                entered[number(3, s.name)][tasks.indexOf(t)]++;
                break;
        }
    }

    private List<Task> waiting() {
        List<Task> all = new ArrayList<>(tasks);
        all.removeIf(t -> !t.waits());
        all.sort(Comparator.<Task>comparingInt(t -> t.priority).thenComparingInt(t -> t.since));
        return all;
    }

    private void serve() {
        Task first = waiting().stream().filter(t -> can(t, t.next())).findFirst().orElse(null);
        while (first != null) {
            have(first, first.next());
            first.state = first.state == 4 ? 2 : 1;
            first.ready = ++turn;
            pass(first);
            first = waiting().stream().filter(t -> can(t, t.next())).findFirst().orElse(null);
        }
    }

    // ---- the calls

    int tasks() {
        return tasks.size();
    }

    int ready() {
        return count(7);
    }

    int run(int n) {
        for (int i = 0; i < n; i++) {
            int answer = grain();
            if (answer != 0) {
                return answer == -1 ? 0 : 2;
            }
        }
        return 1;
    }

    int declared(int sort) {
        return sort == 9 ? statements : sort == 10 ? nodes : told.get(sort).size();
    }

    int trigger(int i) {
        return i < 0 || i >= declared(4) ? NONE : arrive(i);
    }

    int send(int in, int v) {
        if (in < 0 || in >= declared(5)) {
            return NONE;
        }
        if (ins.get(in).size() == 20) {
            return FULL;
        }
        ins.get(in).add(v);
        serve();
        return ins.get(in).size();
    }

    int task(int number, int what) {
        if (number < 0 || number >= tasks.size()) {
            return NONE;
        }
        Task t = tasks.get(number);
        int[] all = {t.state, t.state == 0 ? 0 : t.priority, t.state == 0 ? NONE : t.next().number, t.kept, t.lost, t.began, t.ended, t.latest, t.procs()};
        return what < 0 || what > 8 ? BAD : all[what];
    }

    int value(int v) {
        return v < 0 || v >= declared(0) ? 0 : vars[v];
    }

    int item(int row, int i) {
        if (row < 0 || row >= declared(1)) {
            return 0;
        }
        int size = rows[row] == null ? -1 : rows[row].length;
        return i == NONE ? size : i < 0 || i >= size ? 0 : rows[row][i];
    }

    int one(int a, int b) {
        boolean there = a >= 0 && b >= 0 && a < declared(1) && b < declared(1);
        return !there ? NONE : rows[a] == rows[b] ? 1 : 0;
    }

    int sema(int s) {
        return s < 0 || s >= declared(2) ? NONE : semas[s];
    }

    int bolt(int b, int what) {
        if (b < 0 || b >= declared(3)) {
            return NONE;
        }
        if (what < 0 || what > tasks.size() + 1) {
            return BAD;
        }
        return what == 0 ? reserver[b] : what == 1 ? Arrays.stream(entered[b]).sum() : entered[b][what - 2];
    }

    int irpt(int i, int what) {
        if (i < 0 || i >= declared(4)) {
            return NONE;
        }
        return what == 0 ? enabled[i] ? 1 : 0 : what == 1 ? kept[i] ? 1 : 0 : what == 2 ? came[i] : BAD;
    }

    int sent(int out, int i) {
        if (out < 0 || out >= declared(6)) {
            return 0;
        }
        List<Integer> all = outs.get(out);
        return i == NONE ? all.size() : i < 0 || i >= all.size() ? 0 : all.get(i);
    }

    int waits(int sort, int number, int k) {
        if (sort != 2 && sort != 3 && sort != 5) {
            return BAD;
        }
        List<Task> all = waiting();
        all.removeIf(t -> {
            Statement s = t.next();
            int kind = s.kind.equals("ask") ? 2 : s.kind.equals("take") ? 5 : 3;
            return kind != sort || (sort == 2 ? s.names.stream().noneMatch(name -> number(2, name) == number) : number(sort, s.name) != number);
        });
        return k < 0 || k >= all.size() ? NONE : tasks.indexOf(all.get(k));
    }

    int schedule(int t, int goes, int what) {
        if (t < 0 || t >= tasks.size()) {
            return NONE;
        }
        if (goes < 0 || goes > 1 || what < 0 || what > 3) {
            return BAD;
        }
        Schedule s = schedules.get(2 * t + goes);
        int[] all = s == null ? new int[] {NONE, 0, MOST, NONE} : new int[] {s.time, s.span, s.until, s.irpt};
        return all[what];
    }

    int ring(int k) {
        List<Integer> all = new ArrayList<>();
        for (int t = 0; t < tasks.size(); t++) {
            boolean[] seen = new boolean[8];
            follow(t, seen);
            if (seen[t]) {
                all.add(t);
            }
        }
        return k < 0 || k >= all.size() ? NONE : all.get(k);
    }

    private void follow(int t, boolean[] seen) {
        Task waiter = tasks.get(t);
        if (!waiter.waits() || !waiter.next().kind.equals("reserve") && !waiter.next().kind.equals("enter")) {
            return;
        }
        int b = number(3, waiter.next().name);
        for (int o = 0; o < tasks.size(); o++) {
            boolean has = reserver[b] == o || waiter.next().kind.equals("reserve") && entered[b][o] > 0;
            if (has && !seen[o]) {
                seen[o] = true;
                follow(o, seen);
            }
        }
    }

    int logged(int i) {
        return i < 0 || i >= Math.min(200, log.size()) ? 0 : log.get(i);
    }

    int induced(int i, int what) {
        return i < 0 || i >= Math.min(100, induced.size()) || what < 0 || what > 2 ? NONE : induced.get(i)[what];
    }

    int count(int what) {
        int ready = (int) tasks.stream().filter(t -> t.state == 1).count();
        int[] all = {time, grains, done, log.size(), induced.size(), reactions, schedules.size(), ready, begun, over};
        return what < 0 || what > 9 ? BAD : all[what];
    }
}
