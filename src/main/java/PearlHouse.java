import java.util.Arrays;

/** A house for modules of tasks: their texts are read and judged, then run by grains. */
public final class PearlHouse {
    public static final int NONE = -1, BAD = -2, STATE = -3, FULL = -4;

    // Sorts of names; VALUE is what may stand ahead of = : a var or a parameter.
    private static final int VAR = 0, ROW = 1, SEMA = 2, BOLT = 3, IRPT = 4;
    private static final int IN = 5, OUT = 6, PROC = 7, TASK = 8, VALUE = 9;
    private static final int SORTS = 9;
    private static final int[] MOST_OF_SORT = {8, 4, 4, 4, 4, 4, 4, 6, 8};

    // Tokens; a sign is its own byte, a word is FIRST_WORD and its place in WORDS.
    private static final int WRONG = 0, NAME = 1, NUMBER = 2, TEXT_END = 3, STOPPED = 4;
    private static final String SIGNS = "(){}[],;=<>+-*/%";
    private static final String WORDS = "var row sema bolt irpt in out proc task main on any else until size time state at after all when do return if while end make same lose log induce ask give reserve free enter leave take put start go hold prior prevent pull enable disable";
    private static final int FIRST_WORD = 128, WORD_COUNT = 47;
    private static final int MAIN = 137, ON = 138, ANY = 139, ELSE = 140, UNTIL = 141;
    private static final int SIZE = 142, TIME = 143, STATE_OF = 144;
    private static final int AT = 145, AFTER = 146, ALL = 147, WHEN = 148;
    private static final int DO = 149, RETURN = 150, IF = 151, WHILE = 152, END = 153;
    private static final int MAKE = 154, SAME = 155, LOSE = 156, LOG = 157, INDUCE = 158;
    private static final int ASK = 159, GIVE = 160, RESERVE = 161, FREE = 162, ENTER = 163, LEAVE = 164;
    private static final int TAKE = 165, PUT = 166;
    private static final int START = 167, GO = 168, HOLD = 169, PRIOR = 170, PREVENT = 171;
    private static final int PULL = 172, ENABLE = 173, DISABLE = 174;

    // What the tokens have no code for: an item that is set (a statement), the minus of one number (a node).
    private static final int SET_ITEM = '[', NEGATE = 5;

    private static final int TAPE = 4000, MOST_STATEMENTS = 200, MOST_NODES = 400, MOST_NESTED = 12;
    private static final int MOST_BLOCKS = 700, MOST_PARAMETERS = 3, MOST_LISTED = 4, MOST_PROCS = 8;
    private static final int FIRST_PARAMETER = 8, MOST_TASKS = 8;

    // What a block belongs to.
    private static final int OF_TASK = 0, OF_PROC = 1, OF_IF = 2, OF_WHILE = 3, OF_REACTION = 4;

    // States of a task; HALTED is waiting and held.
    private static final int DORMANT = 0, READY = 1, HELD = 2, WAITING = 3, HALTED = 4;

    // What comes of a statement, where it is no signal.
    private static final int DONE = 0, STAYS = -1, OPENS = -2, RETURNS = -3;

    private static final int BY_IRPT = -2000000000, LAST_TIME = 1000000000, FOREVER = 2147483647;
    private static final int MOST_SCHEDULES = 12, MOST_EVER = 4000;
    private static final int MOST_RECEIVED = 20, MOST_SENT = 40, MOST_ITEMS = 20;
    private static final int MOST_LOGGED = 200, MOST_TOLD = 100;

    private final Scanner tape = new Scanner();
    private final Reader reader = new Reader(tape);
    private final Machine machine = new Machine();
    private Text current = new Text();
    private Text spare = new Text();
    private boolean hasModule = false;
    private int faultPlace = NONE;
    private int wantedProcessors = 1;

    public PearlHouse() {
    }

    public int feed(long w, int n) {
        if (n < 0 || n > 8) {
            return BAD;
        }
        if (n == 0) {
            tape.length = 0;
            return 0;
        }
        if (tape.length + n > TAPE) {
            return FULL;
        }
        for (int i = n - 1; i >= 0; i--) {
            tape.text[tape.length++] = (byte) (w >>> (8 * i));
        }
        return tape.length;
    }

    public int module() {
        int fault = reader.read(spare);
        tape.length = 0;
        if (fault != 0) {
            faultPlace = reader.faultAt;
            return -10 - fault;
        }
        Text old = current;
        current = spare;
        spare = old;
        hasModule = true;
        faultPlace = NONE;
        machine.running = false;
        return current.counts[TASK];
    }

    public int place() {
        return faultPlace;
    }

    public int declared(int sort) {
        if (sort < 0 || sort > 10) {
            return BAD;
        }
        if (sort == 9) {
            return current.statements.count;
        }
        return sort == 10 ? current.statements.nodes : current.counts[sort];
    }

    public int find(int sort, long name) {
        return sort < 0 || sort >= SORTS ? NONE : current.numberOf(sort, name);
    }

    public int processors(int n) {
        if (n < 1 || n > 3) {
            return BAD;
        }
        int old = wantedProcessors;
        wantedProcessors = n;
        return old;
    }

    public int begin() {
        if (!hasModule) {
            return STATE;
        }
        machine.setUp(current, wantedProcessors);
        return machine.inState(READY);
    }

    public int run(int n) {
        if (n < 1 || n > 500) {
            return BAD;
        }
        if (!machine.running) {
            return STATE;
        }
        for (int i = 0; i < n; i++) {
            if (machine.diary.everInduced >= MOST_EVER) {
                return FULL;
            }
            int done = machine.grain();
            if (done != 1) {
                return done;
            }
        }
        return 1;
    }

    public int trigger(int irpt) {
        if (!machine.running) {
            return STATE;
        }
        if (!current.has(IRPT, irpt)) {
            return NONE;
        }
        return machine.arrive(irpt);
    }

    public int send(int in, int v) {
        if (!machine.running) {
            return STATE;
        }
        if (!current.has(IN, in)) {
            return NONE;
        }
        if (machine.gates.receivedCount[in] >= MOST_RECEIVED) {
            return FULL;
        }
        machine.gates.receive(in, v);
        machine.serve();
        return machine.gates.receivedCount[in];
    }

    public int task(int t, int what) {
        if (!machine.running) {
            return STATE;
        }
        if (!current.has(TASK, t)) {
            return NONE;
        }
        return machine.tasks[t].tell(what);
    }

    public int value(int v) {
        return machine.running && current.has(VAR, v) ? machine.store.vars[v] : 0;
    }

    public int item(int row, int i) {
        if (!machine.running || !current.has(ROW, row)) {
            return 0;
        }
        int size = machine.store.sizeOf(row);
        if (i == NONE) {
            return size;
        }
        return i >= 0 && i < size ? machine.store.itemOf(row, i) : 0;
    }

    public int one(int a, int b) {
        if (!machine.running) {
            return STATE;
        }
        if (!current.has(ROW, a) || !current.has(ROW, b)) {
            return NONE;
        }
        return machine.store.rows[a] == machine.store.rows[b] ? 1 : 0;
    }

    public int sema(int s) {
        if (!machine.running) {
            return STATE;
        }
        return current.has(SEMA, s) ? machine.gates.semas[s] : NONE;
    }

    public int bolt(int b, int what) {
        if (!machine.running) {
            return STATE;
        }
        if (!current.has(BOLT, b)) {
            return NONE;
        }
        if (what == 0) {
            return machine.gates.reserver[b];
        }
        if (what == 1) {
            return machine.gates.allEntered(b);
        }
        return what > 1 && current.has(TASK, what - 2) ? machine.gates.entered[b * MOST_TASKS + what - 2] : BAD;
    }

    public int irpt(int i, int what) {
        if (!machine.running) {
            return STATE;
        }
        if (!current.has(IRPT, i)) {
            return NONE;
        }
        switch (what) {
            case 0:
                return machine.timetable.enabled[i] ? 1 : 0;
            case 1:
                return machine.timetable.kept[i] ? 1 : 0;
            case 2:
                return machine.timetable.came[i];
            default:
                return BAD;
        }
    }

    public int sent(int out, int i) {
        if (!machine.running || !current.has(OUT, out)) {
            return 0;
        }
        int size = machine.gates.sentCount[out];
        if (i == NONE) {
            return size;
        }
        return i >= 0 && i < size ? machine.gates.sentNumbers[out * MOST_SENT + i] : 0;
    }

    public int waits(int sort, int number, int k) {
        if (!machine.running) {
            return STATE;
        }
        if (sort != SEMA && sort != BOLT && sort != IN) {
            return BAD;
        }
        return current.has(sort, number) ? machine.waiter(sort, number, k) : NONE;
    }

    public int schedule(int t, int goes, int what) {
        if (!machine.running) {
            return STATE;
        }
        if (!current.has(TASK, t)) {
            return NONE;
        }
        if (goes < 0 || goes > 1 || what < 0 || what > 3) {
            return BAD;
        }
        return machine.timetable.tell(2 * t + goes, what);
    }

    public int ring(int k) {
        return machine.running ? machine.ringed(k) : STATE;
    }

    public int logged(int i) {
        return machine.running ? machine.diary.noted(i) : 0;
    }

    public int induced(int i, int what) {
        return machine.running ? machine.diary.told(i, what) : NONE;
    }

    public int count(int what) {
        return machine.running ? machine.tally(what) : STATE;
    }

    /** The tape, and the token that is read of it just now. */
    static final class Scanner {
        final byte[] text = new byte[TAPE];
        final long[] words = new long[WORD_COUNT];
        int length = 0;
        int next = 0;
        int kind = TEXT_END;
        int start = 0;
        int number = 0;
        long name = 0;

        Scanner() {
            int word = 0;
            for (int i = 0; i < WORDS.length(); i++) {
                char c = WORDS.charAt(i);
                if (c == ' ') {
                    word++;
                } else if (word < WORD_COUNT) {
                    words[word] = words[word] << 8 | c;
                }
            }
        }

        /** One method without helpers: it stands at the end of the longest chain of calls. */
        void advance() {
            if (kind == STOPPED) {
                return;
            }
            while (next < length && (text[next] == ' ' || text[next] == '\n')) {
                next++;
            }
            start = next;
            if (next >= length) {
                kind = TEXT_END;
                return;
            }
            int c = text[next++] & 255;
            boolean named = c >= 'a' && c <= 'z';
            if (!named && (c < '0' || c > '9')) {
                kind = SIGNS.indexOf((char) c) >= 0 ? c : WRONG;
                return;
            }
            name = c;
            number = c - '0';
            while (next < length && (text[next] >= '0' && text[next] <= '9'
                    || named && text[next] >= 'a' && text[next] <= 'z')) {
                name = name << 8 | text[next];
                number = number * 10 + text[next] - '0';
                next++;
            }
            if (next - start > (named ? 8 : 9)) {
                kind = WRONG;
                return;
            }
            kind = named ? NAME : NUMBER;
            for (int i = 0; named && i < WORD_COUNT; i++) {
                if (words[i] == name) {
                    kind = FIRST_WORD + i;
                }
            }
        }

        void rewind() {
            next = 0;
            kind = TEXT_END;
            advance();
        }

        /** The first byte behind the token that is no blank; 0 at the end. */
        int peek() {
            int at = next;
            while (at < length && (text[at] == ' ' || text[at] == '\n')) {
                at++;
            }
            return at < length ? text[at] : 0;
        }
    }

    /** The statements of a module, and the nodes of their expressions, each behind what it works on. */
    static final class Statements {
        final int[] kind = new int[MOST_STATEMENTS];
        final int[] a = new int[MOST_STATEMENTS];
        final int[] b = new int[MOST_STATEMENTS];
        final int[] from = new int[MOST_STATEMENTS];
        final int[] to = new int[MOST_STATEMENTS];
        final int[] next = new int[MOST_STATEMENTS];
        final int[] block = new int[MOST_STATEMENTS];
        final int[] op = new int[MOST_NODES];
        final int[] arg = new int[MOST_NODES];
        int count = 0;
        int nodes = 0;
        int codes = 0;

        void clear() {
            count = 0;
            nodes = 0;
            codes = 0;
        }

        int add(int ofKind, int inBlock) {
            if (count >= MOST_STATEMENTS) {
                return NONE;
            }
            int s = count++;
            kind[s] = ofKind;
            a[s] = NONE;
            b[s] = NONE;
            from[s] = codes;
            to[s] = codes;
            next[s] = NONE;
            block[s] = inBlock;
            return s;
        }

        void emit(int code, int argument) {
            if (codes < MOST_NODES) {
                op[codes] = code;
                arg[codes] = argument;
                codes++;
            }
        }
    }

    /** The blocks of a module. Each tells whose it is, its first statement and a chain of its reactions. */
    static final class Blocks {
        final int[] kind = new int[MOST_BLOCKS];
        final int[] owner = new int[MOST_BLOCKS];
        final int[] first = new int[MOST_BLOCKS];
        final int[] reaction = new int[MOST_BLOCKS];
        final int[] nextReaction = new int[MOST_BLOCKS];
        final int[] signal = new int[MOST_BLOCKS];
        int count = 0;

        int add(int ofKind, int ofOwner) {
            if (count >= MOST_BLOCKS) {
                return NONE;
            }
            int block = count++;
            kind[block] = ofKind;
            owner[block] = ofOwner;
            first[block] = NONE;
            reaction[block] = NONE;
            nextReaction[block] = NONE;
            signal[block] = 0;
            return block;
        }

        /** The reaction of a block to exactly this signal (0: to any); NONE. */
        int reactionTo(int block, int wanted) {
            int on = reaction[block];
            for (int i = 0; i < MOST_BLOCKS && on != NONE; i++) {
                if (signal[on] == wanted) {
                    return on;
                }
                on = nextReaction[on];
            }
            return NONE;
        }

        void react(int block, int on, int toSignal) {
            signal[on] = toSignal;
            nextReaction[on] = reaction[block];
            reaction[block] = on;
        }
    }

    /** What a text tells. */
    static final class Text {
        final long[][] names = new long[SORTS][8];
        final int[] counts = new int[SORTS];
        final int[] varStart = new int[8];
        final int[] semaStart = new int[4];
        final int[] priority = new int[MOST_TASKS];
        final boolean[] main = new boolean[MOST_TASKS];
        final int[] taskBody = new int[MOST_TASKS];
        final int[] procBody = new int[6];
        final int[] parameters = new int[6];
        final Statements statements = new Statements();
        final Blocks blocks = new Blocks();

        /** The next text must find nothing told by the one before, which may have stopped at a fault. */
        void forget() {
            Arrays.fill(counts, 0);
            Arrays.fill(varStart, 0);
            Arrays.fill(semaStart, 0);
            Arrays.fill(priority, 0);
            for (int t = 0; t < MOST_TASKS; t++) {
                main[t] = false;
            }
            Arrays.fill(taskBody, NONE);
            Arrays.fill(procBody, NONE);
            Arrays.fill(parameters, 0);
        }

        boolean has(int sort, int number) {
            return number >= 0 && number < counts[sort];
        }

        int numberOf(int sort, long name) {
            for (int i = 0; i < counts[sort]; i++) {
                if (names[sort][i] == name) {
                    return i;
                }
            }
            return NONE;
        }

        boolean isTold(long name) {
            for (int sort = 0; sort < SORTS; sort++) {
                if (numberOf(sort, name) != NONE) {
                    return true;
                }
            }
            return false;
        }
    }

    /**
     * Reads the tape twice: at first the faults 1 to 5 are looked for and the names are told; then, as all names are
     * known, what they mean is looked up (faults 6, 7). Behind a fault the scanner stands still, so all ends soon.
     */
    static final class Reader {
        final Scanner scanner;
        final int[] met = new int[SORTS];
        final long[] parameterNames = new long[MOST_PARAMETERS];
        int parameterCount = 0;
        Text module = null;
        Statements statements = null;
        Blocks blocks = null;
        boolean known = false;
        boolean inProc = false;
        int depth = 0;
        int fault = 0;
        int faultAt = NONE;
        int misfit = NONE;

        Reader(Scanner ofTape) {
            scanner = ofTape;
        }

        /** Dispatches to the declarations itself, as the chain of calls below is long already. */
        int read(Text into) {
            module = into;
            statements = into.statements;
            blocks = into.blocks;
            fault = 0;
            misfit = NONE;
            into.forget();
            for (int pass = 1; pass <= 2 && fault == 0; pass++) {
                known = pass == 2;
                rewind();
                for (int i = 0; i < TAPE && scanner.kind != TEXT_END && scanner.kind != STOPPED; i++) {
                    int sort = scanner.kind - FIRST_WORD;
                    if (sort < VAR || sort > TASK) {
                        refuse(2);
                    } else if (sort == PROC) {
                        readProc();
                    } else if (sort == TASK) {
                        readTask();
                    } else {
                        readThing(sort);
                    }
                }
            }
            if (fault == 0 && misfit != NONE) {
                fault = 7;
                faultAt = misfit;
            }
            return fault;
        }

        private void rewind() {
            statements.clear();
            blocks.count = 0;
            Arrays.fill(met, 0);
            depth = 0;
            inProc = false;
            parameterCount = 0;
            scanner.rewind();
        }

        private void readThing(int sort) {
            scanner.advance();
            int number = tellName(sort);
            if (sort == VAR) {
                boolean told = accept('=');
                boolean below = told && accept('-');
                int start = told ? numeral(0, FOREVER) : 0;
                if (number != NONE) {
                    module.varStart[number] = below ? -start : start;
                }
            } else if (sort == SEMA) {
                int start = numeral(0, 9);
                if (number != NONE) {
                    module.semaStart[number] = start;
                }
            }
            want(';');
        }

        private void readTask() {
            scanner.advance();
            int number = tellName(TASK);
            int priority = numeral(1, 9);
            boolean main = accept(MAIN);
            int body = block(OF_TASK, number);
            if (number != NONE) {
                module.priority[number] = priority;
                module.main[number] = main;
                module.taskBody[number] = body;
            }
        }

        private void readProc() {
            scanner.advance();
            int number = tellName(PROC);
            want('(');
            boolean more = scanner.kind != ')';
            for (int i = 0; more && i <= MOST_PARAMETERS; i++) {
                tellParameter();
                more = accept(',');
            }
            want(')');
            inProc = true;
            int body = block(OF_PROC, number);
            if (number != NONE) {
                module.parameters[number] = parameterCount;
                module.procBody[number] = body;
            }
            inProc = false;
            parameterCount = 0;
        }

        private int tellName(int sort) {
            if (scanner.kind != NAME) {
                return refuse(2);
            }
            int number = met[sort];
            if (!known) {
                int told = sort == IN || sort == OUT ? met[IN] + met[OUT] : number;
                if (told >= MOST_OF_SORT[sort]) {
                    return refuse(3);
                }
                if (module.isTold(scanner.name)) {
                    return refuse(4);
                }
                module.names[sort][number] = scanner.name;
                module.counts[sort] = number + 1;
            }
            met[sort] = number + 1;
            scanner.advance();
            return number;
        }

        private void tellParameter() {
            if (scanner.kind != NAME) {
                refuse(2);
                return;
            }
            if (parameterCount >= MOST_PARAMETERS) {
                refuse(3);
                return;
            }
            for (int i = 0; i < parameterCount; i++) {
                if (parameterNames[i] == scanner.name) {
                    refuse(4);
                    return;
                }
            }
            parameterNames[parameterCount++] = scanner.name;
            scanner.advance();
        }

        /** A block, with what is in it; NONE behind a fault. */
        private int block(int kind, int owner) {
            if (!deeper('{')) {
                return NONE;
            }
            int block = blocks.add(kind, owner);
            if (block == NONE) {
                return refuse(3);
            }
            for (int i = 0; i < TAPE && scanner.kind == ON; i++) {
                reaction(block);
            }
            int last = NONE;
            for (int i = 0; i < TAPE && (scanner.kind == NAME || scanner.kind >= AT); i++) {
                int s = statement(block);
                if (last == NONE) {
                    blocks.first[block] = s;
                } else {
                    statements.next[last] = s;
                }
                last = s;
            }
            want('}');
            depth--;
            return block;
        }

        private void reaction(int block) {
            scanner.advance();
            boolean any = scanner.kind == ANY;
            if (!any && scanner.kind != NUMBER) {
                refuse(2);
                return;
            }
            int signal = any ? 0 : scanner.number;
            if (!any && (signal < 1 || signal > 19) || blocks.reactionTo(block, signal) != NONE) {
                refuse(5);
                return;
            }
            scanner.advance();
            int on = block(OF_REACTION, block);
            if (on != NONE) {
                blocks.react(block, on, signal);
            }
        }

        private int statement(int block) {
            int kind = scanner.kind;
            if (kind == RETURN && !inProc) {
                return refuse(2);
            }
            int s = statements.add(kind, block);
            if (s == NONE) {
                return refuse(3);
            }
            if (kind == IF || kind == WHILE) {
                branch(s);
                return s;
            }
            if (kind == NAME) {
                assignment(s);
            } else if (kind >= AT && kind <= WHEN) {
                timed(s);
            } else {
                scanner.advance();
                if (kind == ASK || kind == GIVE) {
                    list(s);
                } else if (kind != DO) {
                    operands(s);
                }
            }
            if (statements.kind[s] == DO) {
                call(s);
            }
            statements.to[s] = statements.codes;
            want(';');
            return s;
        }

        private void branch(int s) {
            boolean loops = statements.kind[s] == WHILE;
            scanner.advance();
            expression();
            statements.to[s] = statements.codes;
            statements.a[s] = block(loops ? OF_WHILE : OF_IF, s);
            if (!loops && accept(ELSE)) {
                statements.b[s] = block(OF_IF, s);
            }
        }

        /** What begins with a name; of NAME = do this is the part up to the do. */
        private void assignment(int s) {
            if (scanner.peek() == '[') {
                statements.kind[s] = SET_ITEM;
                statements.a[s] = meaning(ROW);
                if (deeper('[')) {
                    expression();
                    want(']');
                    depth--;
                }
                want('=');
                expression();
                return;
            }
            statements.a[s] = meaning(VALUE);
            want('=');
            if (accept(DO)) {
                statements.kind[s] = DO;
            } else {
                expression();
            }
        }

        private void call(int s) {
            int at = scanner.start;
            int proc = meaning(PROC);
            want('(');
            int given = 0;
            boolean more = scanner.kind != ')';
            for (int i = 0; more && i <= MOST_PARAMETERS; i++) {
                if (i == MOST_PARAMETERS && beginsExpression(scanner.kind)) {
                    refuse(3);
                }
                expression();
                given++;
                more = accept(',');
            }
            want(')');
            statements.b[s] = proc;
            if (known && misfit == NONE && proc != NONE && given != module.parameters[proc]) {
                misfit = at;
            }
        }

        /** The semas of a list are kept in one int, four bits for each, the number and 1. */
        private void list(int s) {
            int packed = 0;
            boolean more = true;
            for (int i = 0; more && i <= MOST_LISTED; i++) {
                if (i == MOST_LISTED && scanner.kind == NAME) {
                    refuse(3);
                }
                packed |= (meaning(SEMA) + 1) << (4 * i);
                more = accept(',');
            }
            statements.a[s] = packed;
        }

        /** A schedule: b is its irpt, or the word that tells how its times go. */
        private void timed(int s) {
            int how = scanner.kind;
            scanner.advance();
            if (how == WHEN) {
                statements.b[s] = meaning(IRPT);
            } else {
                expression();
                if (how == ALL && accept(UNTIL)) {
                    how = UNTIL;
                    expression();
                }
                statements.b[s] = how;
            }
            if (scanner.kind != START && scanner.kind != GO) {
                refuse(2);
                return;
            }
            statements.kind[s] = scanner.kind;
            scanner.advance();
            statements.a[s] = meaning(TASK);
        }

        private void operands(int s) {
            int kind = statements.kind[s];
            int first = firstSort(kind);
            if (first != NONE && (kind != END || scanner.kind != ';')) {
                statements.a[s] = meaning(first);
            }
            if (kind == SAME) {
                statements.b[s] = meaning(ROW);
            } else if (kind == TAKE) {
                statements.b[s] = meaning(VAR);
            } else if (first == NONE || kind == MAKE || kind == PRIOR || kind == PUT) {
                expression();
            }
        }

        /** The sort of the name that stands behind a word; NONE: an expression stands there. */
        private static int firstSort(int kind) {
            switch (kind) {
                case RETURN: case INDUCE: case LOG:
                    return NONE;
                case MAKE: case SAME: case LOSE:
                    return ROW;
                case RESERVE: case FREE: case ENTER: case LEAVE:
                    return BOLT;
                case TAKE:
                    return IN;
                case PUT:
                    return OUT;
                case PULL: case ENABLE: case DISABLE:
                    return IRPT;
                default:
                    return TASK;
            }
        }

        private void expression() {
            sum();
            int sign = scanner.kind;
            if (sign == '=' || sign == '<' || sign == '>') {
                node();
                sum();
                statements.emit(sign, 0);
            }
        }

        private void sum() {
            term();
            for (int i = 0; i < TAPE && (scanner.kind == '+' || scanner.kind == '-'); i++) {
                int sign = scanner.kind;
                node();
                term();
                statements.emit(sign, 0);
            }
        }

        private void term() {
            factor();
            for (int i = 0; i < TAPE && (scanner.kind == '*' || scanner.kind == '/' || scanner.kind == '%'); i++) {
                int sign = scanner.kind;
                node();
                factor();
                statements.emit(sign, 0);
            }
        }

        private void factor() {
            int kind = scanner.kind;
            if (kind == '(') {
                if (deeper('(')) {
                    expression();
                    want(')');
                    depth--;
                }
            } else if (kind == '-') {
                countNode();
                if (deeper('-')) {
                    factor();
                    depth--;
                    statements.emit(NEGATE, 0);
                }
            } else if (kind == NAME) {
                named();
            } else if (kind == NUMBER || kind == TIME) {
                statements.emit(kind, scanner.number);
                node();
            } else if (kind == SIZE || kind == STATE_OF) {
                node();
                statements.emit(kind, meaning(kind == SIZE ? ROW : TASK));
            } else {
                refuse(2);
            }
        }

        private void named() {
            countNode();
            if (scanner.peek() != '[') {
                statements.emit(NAME, meaning(VALUE));
                return;
            }
            int row = meaning(ROW);
            if (deeper('[')) {
                expression();
                want(']');
                depth--;
                statements.emit('[', row);
            }
        }

        private static boolean beginsExpression(int kind) {
            return kind == NAME || kind == NUMBER || kind == '(' || kind == '-' || kind >= SIZE && kind <= STATE_OF;
        }

        private void countNode() {
            if (statements.nodes >= MOST_NODES) {
                refuse(3);
            } else {
                statements.nodes++;
            }
        }

        private void node() {
            if (statements.nodes >= MOST_NODES) {
                refuse(3);
            } else if (scanner.kind != STOPPED) {
                statements.nodes++;
                scanner.advance();
            }
        }

        /** What the name that stands here means; NONE behind a fault. */
        private int meaning(int sort) {
            if (scanner.kind != NAME) {
                return refuse(2);
            }
            int number = 0;
            if (known) {
                number = module.numberOf(sort == VALUE ? VAR : sort, scanner.name);
                for (int i = 0; i < parameterCount; i++) {
                    if (parameterNames[i] == scanner.name) {
                        number = sort == VALUE ? FIRST_PARAMETER + i : NONE;
                    }
                }
            }
            if (number == NONE) {
                return refuse(6);
            }
            scanner.advance();
            return number;
        }

        private int numeral(int low, int high) {
            if (scanner.kind != NUMBER) {
                return refuse(2);
            }
            int number = scanner.number;
            if (number < low || number > high) {
                return refuse(5);
            }
            scanner.advance();
            return number;
        }

        /** Passes a sign that opens a level; false, behind a fault: none is opened. */
        private boolean deeper(int sign) {
            if (scanner.kind != sign) {
                refuse(2);
                return false;
            }
            if (depth >= MOST_NESTED) {
                refuse(3);
                return false;
            }
            depth++;
            scanner.advance();
            return true;
        }

        private boolean accept(int kind) {
            if (scanner.kind != kind) {
                return false;
            }
            scanner.advance();
            return true;
        }

        private void want(int kind) {
            if (scanner.kind == kind) {
                scanner.advance();
            } else {
                refuse(2);
            }
        }

        /** Keeps the first fault; a token that is wrong in itself is always fault 1. */
        private int refuse(int number) {
            if (scanner.kind != STOPPED) {
                fault = scanner.kind == WRONG ? 1 : number;
                faultAt = scanner.start;
                scanner.kind = STOPPED;
            }
            return NONE;
        }
    }

    /** A task of a run. At each level (0: its own block, above: a proc) it stands at one statement. */
    static final class Task {
        final int number;
        final int[] at = new int[MOST_PROCS + 1];
        final int[] given = new int[MOST_PARAMETERS * (MOST_PROCS + 1)];
        int state = DORMANT;
        int priority = 0;
        int kept = 0;
        int lost = 0;
        int began = 0;
        int ended = 0;
        int latest = 0;
        int depth = 0;
        int ready = 0;
        int since = 0;

        Task(int ofNumber) {
            number = ofNumber;
        }

        void clear() {
            state = DORMANT;
            kept = 0;
            lost = 0;
            began = 0;
            ended = 0;
            latest = 0;
            depth = 0;
        }

        boolean isWaiting() {
            return state == WAITING || state == HALTED;
        }

        int tell(int what) {
            switch (what) {
                case 0:
                    return state;
                case 1:
                    return state == DORMANT ? 0 : priority;
                case 2:
                    return state == DORMANT ? NONE : at[depth];
                case 3:
                    return kept;
                case 4:
                    return lost;
                case 5:
                    return began;
                case 6:
                    return ended;
                case 7:
                    return latest;
                case 8:
                    return depth;
                default:
                    return BAD;
            }
        }
    }

    /** Vars, rows and their arrays. Four rows have at most four arrays, so four places are enough for ever. */
    static final class Store {
        final int[] vars = new int[8];
        final int[] rows = new int[4];
        final int[] sizes = new int[4];
        final int[] items = new int[4 * MOST_ITEMS];
        int made = 0;

        void clear(int[] starts) {
            System.arraycopy(starts, 0, vars, 0, vars.length);
            Arrays.fill(rows, NONE);
        }

        int sizeOf(int row) {
            return rows[row] == NONE ? NONE : sizes[rows[row]];
        }

        int itemOf(int row, int i) {
            return items[rows[row] * MOST_ITEMS + i];
        }

        /** The signal that an item calls forth; DONE: it is there. */
        int lookAt(int row, int i) {
            if (rows[row] == NONE) {
                return 1;
            }
            return i < 0 || i >= sizes[rows[row]] ? 2 : DONE;
        }

        int setItem(int row, int i, int v) {
            int signal = lookAt(row, i);
            if (signal == DONE) {
                items[rows[row] * MOST_ITEMS + i] = v;
            }
            return signal;
        }

        int make(int row, int size) {
            if (size < 0 || size > MOST_ITEMS || made >= MOST_EVER) {
                return 3;
            }
            made++;
            rows[row] = NONE;
            int slot = 0;
            for (int i = 0; i < 3 && isUsed(slot); i++) {
                slot++;
            }
            rows[row] = slot;
            sizes[slot] = size;
            Arrays.fill(items, slot * MOST_ITEMS, slot * MOST_ITEMS + size, 0);
            return DONE;
        }

        private boolean isUsed(int slot) {
            return rows[0] == slot || rows[1] == slot || rows[2] == slot || rows[3] == slot;
        }
    }

    /** Semas, bolts, ins and outs. */
    static final class Gates {
        final int[] semas = new int[4];
        final int[] reserver = new int[4];
        final int[] entered = new int[4 * MOST_TASKS];
        final int[] received = new int[4 * MOST_RECEIVED];
        final int[] receivedCount = new int[4];
        final int[] sentNumbers = new int[4 * MOST_SENT];
        final int[] sentCount = new int[4];

        void clear(int[] starts) {
            System.arraycopy(starts, 0, semas, 0, semas.length);
            Arrays.fill(reserver, NONE);
            Arrays.fill(entered, 0);
            Arrays.fill(receivedCount, 0);
            Arrays.fill(sentCount, 0);
        }

        /** How often a list of semas names one of them. */
        static int timesIn(int list, int sema) {
            int times = 0;
            for (int i = 0; i < MOST_LISTED; i++) {
                if ((list >> (4 * i) & 15) == sema + 1) {
                    times++;
                }
            }
            return times;
        }

        boolean canAsk(int list) {
            for (int s = 0; s < 4; s++) {
                if (semas[s] < timesIn(list, s)) {
                    return false;
                }
            }
            return true;
        }

        void ask(int list) {
            for (int s = 0; s < 4; s++) {
                semas[s] -= timesIn(list, s);
            }
        }

        int give(int list) {
            for (int s = 0; s < 4; s++) {
                if (semas[s] + timesIn(list, s) > 9) {
                    return 8;
                }
            }
            for (int s = 0; s < 4; s++) {
                semas[s] += timesIn(list, s);
            }
            return DONE;
        }

        int allEntered(int bolt) {
            int all = 0;
            for (int t = 0; t < MOST_TASKS; t++) {
                all += entered[bolt * MOST_TASKS + t];
            }
            return all;
        }

        int free(int bolt, int t) {
            if (reserver[bolt] != t) {
                return 8;
            }
            reserver[bolt] = NONE;
            return DONE;
        }

        int leave(int bolt, int t) {
            if (entered[bolt * MOST_TASKS + t] == 0) {
                return 8;
            }
            entered[bolt * MOST_TASKS + t]--;
            return DONE;
        }

        void receive(int in, int v) {
            if (receivedCount[in] < MOST_RECEIVED) {
                received[in * MOST_RECEIVED + receivedCount[in]] = v;
                receivedCount[in]++;
            }
        }

        int takeEldest(int in) {
            int base = in * MOST_RECEIVED;
            int eldest = received[base];
            if (receivedCount[in] > 0) {
                receivedCount[in]--;
                System.arraycopy(received, base + 1, received, base, receivedCount[in]);
            }
            return eldest;
        }

        int put(int out, int v) {
            if (sentCount[out] >= MOST_SENT) {
                return 8;
            }
            sentNumbers[out * MOST_SENT + sentCount[out]] = v;
            sentCount[out]++;
            return DONE;
        }
    }

    /** Schedules (of task t the one to start is 2 t, to go 2 t + 1) and irpts. A schedule with the time NONE is none. */
    static final class Timetable {
        final int[] time = new int[2 * MOST_TASKS];
        final int[] span = new int[2 * MOST_TASKS];
        final int[] until = new int[2 * MOST_TASKS];
        final int[] irpt = new int[2 * MOST_TASKS];
        final boolean[] enabled = new boolean[4];
        final boolean[] kept = new boolean[4];
        final int[] came = new int[4];

        void clear() {
            Arrays.fill(time, NONE);
            for (int i = 0; i < 4; i++) {
                enabled[i] = true;
                kept[i] = false;
                came[i] = 0;
            }
        }

        int size() {
            int size = 0;
            for (int k = 0; k < time.length; k++) {
                if (time[k] != NONE) {
                    size++;
                }
            }
            return size;
        }

        int tell(int k, int what) {
            boolean none = time[k] == NONE;
            switch (what) {
                case 0:
                    return time[k];
                case 1:
                    return none ? 0 : span[k];
                case 2:
                    return none ? FOREVER : until[k];
                default:
                    return none ? NONE : irpt[k];
            }
        }

        /** The schedule that has the earliest time, of several the first; NONE. */
        int earliest() {
            int best = NONE;
            for (int k = 0; k < time.length; k++) {
                if (time[k] >= 0 && (best == NONE || time[k] < time[best])) {
                    best = k;
                }
            }
            return best;
        }

        void pass(int k) {
            long next = (long) time[k] + span[k];
            boolean over = span[k] == 0 || next > until[k] || next > LAST_TIME;
            time[k] = over ? NONE : (int) next;
        }
    }

    /** What a run tells of itself; only everInduced outlives it. */
    static final class Diary {
        final int[] notes = new int[MOST_LOGGED];
        final int[] signals = new int[3 * MOST_TOLD];
        int noteCount = 0;
        int signalCount = 0;
        int everInduced = 0;
        int reactions = 0;
        int grains = 0;
        int statements = 0;
        int procsBegun = 0;
        int procsOver = 0;

        void clear() {
            noteCount = 0;
            signalCount = 0;
            reactions = 0;
            grains = 0;
            statements = 0;
            procsBegun = 0;
            procsOver = 0;
        }

        int note(int v) {
            if (noteCount < MOST_LOGGED) {
                notes[noteCount] = v;
            }
            noteCount++;
            return DONE;
        }

        int noted(int i) {
            return i >= 0 && i < noteCount && i < MOST_LOGGED ? notes[i] : 0;
        }

        void noteSignal(int t, int signal, int s) {
            if (signalCount < MOST_TOLD) {
                signals[3 * signalCount] = t;
                signals[3 * signalCount + 1] = signal;
                signals[3 * signalCount + 2] = s;
            }
            signalCount++;
            everInduced++;
        }

        int told(int i, int what) {
            boolean there = i >= 0 && i < signalCount && i < MOST_TOLD && what >= 0 && what <= 2;
            return there ? signals[3 * i + what] : NONE;
        }
    }

    /** A run of a module. */
    static final class Machine {
        final Task[] tasks = new Task[MOST_TASKS];
        final Store store = new Store();
        final Gates gates = new Gates();
        final Timetable timetable = new Timetable();
        final Diary diary = new Diary();
        final int[] stack = new int[64];
        final int[] order = new int[MOST_TASKS];
        final int[] reach = new int[MOST_TASKS];
        Text module = null;
        Statements statements = null;
        Blocks blocks = null;
        boolean running = false;
        int taskCount = 0;
        int processorCount = 1;
        int time = 0;
        int turn = 0;
        int top = 0;
        int opened = NONE;

        Machine() {
            for (int t = 0; t < MOST_TASKS; t++) {
                tasks[t] = new Task(t);
            }
        }

        void setUp(Text of, int withProcessors) {
            module = of;
            statements = of.statements;
            blocks = of.blocks;
            taskCount = of.counts[TASK];
            processorCount = withProcessors;
            running = true;
            time = 0;
            turn = 0;
            store.clear(of.varStart);
            gates.clear(of.semaStart);
            timetable.clear();
            diary.clear();
            for (int t = 0; t < MOST_TASKS; t++) {
                tasks[t].clear();
            }
            for (int t = 0; t < taskCount; t++) {
                if (of.main[t]) {
                    awaken(tasks[t]);
                }
            }
        }

        int inState(int state) {
            int all = 0;
            for (int t = 0; t < taskCount; t++) {
                if (tasks[t].state == state) {
                    all++;
                }
            }
            return all;
        }

        int tally(int what) {
            switch (what) {
                case 0:
                    return time;
                case 1:
                    return diary.grains;
                case 2:
                    return diary.statements;
                case 3:
                    return diary.noteCount;
                case 4:
                    return diary.signalCount;
                case 5:
                    return diary.reactions;
                case 6:
                    return timetable.size();
                case 7:
                    return inState(READY);
                case 8:
                    return diary.procsBegun;
                case 9:
                    return diary.procsOver;
                default:
                    return BAD;
            }
        }

        /** 1: a grain is done; else none is: 0 the run is still, 2 it has ended. */
        int grain() {
            actDue();
            int chosen = choose();
            if (chosen == 0) {
                int next = timetable.earliest();
                if (next == NONE) {
                    return inState(DORMANT) == taskCount ? 2 : 0;
                }
                time = timetable.time[next];
            } else {
                for (int i = 0; i < chosen; i++) {
                    Task t = tasks[order[i]];
                    if (t.state == READY) {
                        perform(t);
                        serve();
                    }
                }
                time++;
            }
            diary.grains++;
            return 1;
        }

        private void actDue() {
            for (int i = 0; i < 1000; i++) {
                int k = timetable.earliest();
                if (k == NONE || timetable.time[k] > time) {
                    return;
                }
                timetable.pass(k);
                act(k);
            }
        }

        /** Puts the ready tasks that have a processor in this grain into the order; how many. */
        private int choose() {
            int chosen = 0;
            for (int i = 0; i < taskCount; i++) {
                Task t = tasks[i];
                if (t.state != READY) {
                    continue;
                }
                int ahead = 0;
                for (int j = 0; j < taskCount; j++) {
                    Task o = tasks[j];
                    boolean first = o.priority < t.priority || o.priority == t.priority && o.ready < t.ready;
                    if (o.state == READY && first) {
                        ahead++;
                    }
                }
                if (ahead < processorCount) {
                    order[ahead] = i;
                    chosen++;
                }
            }
            return chosen;
        }

        private void perform(Task t) {
            int s = t.at[t.depth];
            diary.statements++;
            int outcome = work(t, s);
            if (outcome == DONE) {
                outcome = execute(t, s);
            }
            if (outcome > DONE) {
                induce(t, outcome, s);
            } else if (outcome == DONE) {
                onward(t, s);
            } else if (outcome == OPENS) {
                open(t, opened);
            } else if (outcome == RETURNS) {
                close(t, opened, stack[0]);
            }
        }

        /** Leaves the numbers of all expressions of a statement on the stack; a signal, or DONE. */
        private int work(Task t, int s) {
            top = 0;
            for (int i = statements.from[s]; i < statements.to[s]; i++) {
                int signal = workNode(t, statements.op[i], statements.arg[i]);
                if (signal != DONE) {
                    return signal;
                }
            }
            return DONE;
        }

        private int workNode(Task t, int op, int arg) {
            long v = 0;
            switch (op) {
                case NUMBER:
                    v = arg;
                    break;
                case NAME:
                    v = arg < FIRST_PARAMETER ? store.vars[arg] : t.given[MOST_PARAMETERS * t.depth + arg - FIRST_PARAMETER];
                    break;
                case TIME:
                    v = time;
                    break;
                case STATE_OF:
                    v = tasks[arg].state;
                    break;
                case SIZE:
                    v = store.sizeOf(arg);
                    if (v == NONE) {
                        return 1;
                    }
                    break;
                case '[':
                    int i = pop();
                    int signal = store.lookAt(arg, i);
                    if (signal != DONE) {
                        return signal;
                    }
                    v = store.itemOf(arg, i);
                    break;
                case NEGATE:
                    v = -(long) pop();
                    break;
                default:
                    long right = pop();
                    long left = pop();
                    if (right == 0 && (op == '/' || op == '%')) {
                        return 4;
                    }
                    v = combine(op, left, right);
                    break;
            }
            if (v != (int) v) {
                return 5;
            }
            if (top < stack.length) {
                stack[top++] = (int) v;
            }
            return DONE;
        }

        private int pop() {
            if (top > 0) {
                top--;
            }
            return stack[top];
        }

        /** The divisor has been looked at. */
        private static long combine(int op, long left, long right) {
            switch (op) {
                case '+':
                    return left + right;
                case '-':
                    return left - right;
                case '*':
                    return left * right;
                case '/':
                    return right == 0 ? 0 : left / right;
                case '%':
                    return right == 0 ? 0 : left % right;
                case '=':
                    return left == right ? 1 : 0;
                case '<':
                    return left < right ? 1 : 0;
                default:
                    return left > right ? 1 : 0;
            }
        }

        private int execute(Task t, int s) {
            int a = statements.a[s];
            int v = stack[0];
            switch (statements.kind[s]) {
                case NAME:
                    assign(t, a, v);
                    return DONE;
                case SET_ITEM:
                    return store.setItem(a, v, stack[1]);
                case MAKE:
                    return store.make(a, v);
                case SAME:
                    store.rows[a] = store.rows[statements.b[s]];
                    return DONE;
                case LOSE:
                    store.rows[a] = NONE;
                    return DONE;
                case LOG:
                    return diary.note(v);
                case INDUCE:
                    return v < 1 || v > 19 ? 5 : v;
                case IF: case WHILE:
                    opened = v != 0 ? a : statements.b[s];
                    return opened == NONE ? DONE : OPENS;
                case DO:
                    return enterProc(t, statements.b[s]);
                case RETURN:
                    opened = module.procBody[statements.b[t.at[t.depth - 1]]];
                    return RETURNS;
                case ASK: case RESERVE: case ENTER: case TAKE:
                    return request(t, s);
                case GIVE:
                    return gates.give(a);
                case FREE:
                    return gates.free(a, t.number);
                case LEAVE:
                    return gates.leave(a, t.number);
                case PUT:
                    return gates.put(a, v);
                case PULL:
                    arrive(a);
                    return DONE;
                case ENABLE:
                    return enable(a);
                case DISABLE:
                    timetable.enabled[a] = false;
                    return DONE;
                default:
                    return direct(t, s);
            }
        }

        private void assign(Task t, int target, int v) {
            if (target >= FIRST_PARAMETER) {
                t.given[MOST_PARAMETERS * t.depth + target - FIRST_PARAMETER] = v;
            } else if (target >= 0) {
                store.vars[target] = v;
            }
        }

        private int enterProc(Task t, int proc) {
            if (t.depth >= MOST_PROCS) {
                return 6;
            }
            t.depth++;
            System.arraycopy(stack, 0, t.given, MOST_PARAMETERS * t.depth, MOST_PARAMETERS);
            diary.procsBegun++;
            opened = module.procBody[proc];
            return OPENS;
        }

        /** The statements that act on tasks. */
        private int direct(Task t, int s) {
            int a = statements.a[s];
            int b = statements.b[s];
            Task o = a == NONE ? t : tasks[a];
            switch (statements.kind[s]) {
                case START:
                    if (b != NONE) {
                        return plan(2 * a, b);
                    }
                    act(2 * a);
                    return DONE;
                case GO:
                    if (b != NONE) {
                        return plan(2 * a + 1, b);
                    }
                    return act(2 * a + 1);
                case HOLD:
                    if (o.state != READY && o.state != WAITING) {
                        return 7;
                    }
                    o.state = o.state == READY ? HELD : HALTED;
                    return DONE;
                case PRIOR:
                    if (stack[0] < 1 || stack[0] > 9) {
                        return 5;
                    }
                    if (o.state == DORMANT) {
                        return 7;
                    }
                    o.priority = stack[0];
                    return DONE;
                case PREVENT:
                    timetable.time[2 * a] = NONE;
                    timetable.time[2 * a + 1] = NONE;
                    return DONE;
                default:
                    if (o.state == DORMANT) {
                        return 7;
                    }
                    finish(o);
                    return o == t ? STAYS : DONE;
            }
        }

        /** A new schedule k; how is its irpt, or the word that tells how its times go. */
        private int plan(int k, int how) {
            boolean timed = how >= UNTIL;
            boolean again = how == ALL || how == UNTIL;
            int told = stack[0];
            long first = how == AT ? told : (long) time + told;
            int until = how == UNTIL ? stack[1] : FOREVER;
            boolean early = how == AT ? told < time : told < 1;
            if (timed && (early || first > LAST_TIME || until < first)) {
                return 9;
            }
            if (timetable.time[k] == NONE && timetable.size() >= MOST_SCHEDULES) {
                return 7;
            }
            timetable.time[k] = timed ? (int) first : BY_IRPT;
            timetable.span[k] = again ? told : 0;
            timetable.until[k] = until;
            timetable.irpt[k] = timed ? NONE : how;
            return DONE;
        }

        /** The start or go of schedule k is done now; 7: the task's state bars it. */
        private int act(int k) {
            Task t = tasks[k / 2];
            if (k % 2 == 0) {
                if (t.state == DORMANT) {
                    awaken(t);
                } else if (t.kept < 3) {
                    t.kept++;
                } else {
                    t.lost++;
                }
                return DONE;
            }
            if (t.state == HELD) {
                t.state = READY;
                t.ready = ++turn;
                return DONE;
            }
            if (t.state == HALTED) {
                t.state = WAITING;
                return DONE;
            }
            return 7;
        }

        private void awaken(Task t) {
            t.began++;
            int first = blocks.first[module.taskBody[t.number]];
            if (first == NONE) {
                t.ended++;
                timetable.time[2 * t.number + 1] = NONE;
                return;
            }
            t.state = READY;
            t.priority = module.priority[t.number];
            t.depth = 0;
            t.at[0] = first;
            t.ready = ++turn;
        }

        private void finish(Task t) {
            t.ended++;
            diary.procsOver += t.depth;
            t.depth = 0;
            t.state = DORMANT;
            timetable.time[2 * t.number + 1] = NONE;
            if (t.kept > 0) {
                t.kept--;
                awaken(t);
            }
        }

        /** An irpt comes: 1; 0: it is kept. */
        int arrive(int irpt) {
            if (!timetable.enabled[irpt]) {
                timetable.kept[irpt] = true;
                return 0;
            }
            timetable.came[irpt]++;
            for (int priority = 1; priority <= 9; priority++) {
                for (int k = 0; k < 2 * taskCount; k++) {
                    Task t = tasks[k / 2];
                    int own = t.state == DORMANT ? module.priority[t.number] : t.priority;
                    if (own == priority && timetable.time[k] == BY_IRPT && timetable.irpt[k] == irpt) {
                        act(k);
                    }
                }
            }
            return 1;
        }

        private int enable(int irpt) {
            timetable.enabled[irpt] = true;
            if (timetable.kept[irpt]) {
                timetable.kept[irpt] = false;
                arrive(irpt);
            }
            return DONE;
        }

        private int request(Task t, int s) {
            t.since = ++turn;
            if (!canHave(t, s)) {
                t.state = WAITING;
                return STAYS;
            }
            have(t, s);
            return DONE;
        }

        private boolean canHave(Task t, int s) {
            int a = statements.a[s];
            switch (statements.kind[s]) {
                case ASK:
                    return gates.canAsk(a);
                case TAKE:
                    return gates.receivedCount[a] > 0;
                case RESERVE:
                    return gates.reserver[a] == NONE && gates.allEntered(a) == 0;
                default:
                    return gates.reserver[a] == NONE && !isAwaited(a, t);
            }
        }

        /** Whether one that would be served ahead of this task waits to reserve the bolt. */
        private boolean isAwaited(int bolt, Task t) {
            for (int i = 0; i < taskCount; i++) {
                Task o = tasks[i];
                int s = o.at[o.depth];
                if (o.isWaiting() && isAhead(o, t) && statements.kind[s] == RESERVE && statements.a[s] == bolt) {
                    return true;
                }
            }
            return false;
        }

        private static boolean isAhead(Task o, Task t) {
            return o.priority < t.priority || o.priority == t.priority && o.since < t.since;
        }

        private void have(Task t, int s) {
            int a = statements.a[s];
            switch (statements.kind[s]) {
                case ASK:
                    gates.ask(a);
                    break;
                case TAKE:
                    store.vars[statements.b[s]] = gates.takeEldest(a);
                    break;
                case RESERVE:
                    gates.reserver[a] = t.number;
                    break;
                default:
                    gates.entered[a * MOST_TASKS + t.number]++;
                    break;
            }
        }

        /** Each task that is served waits no more, so there are no more rounds than tasks. */
        void serve() {
            for (int round = 0; round <= MOST_TASKS; round++) {
                Task best = null;
                for (int i = 0; i < taskCount; i++) {
                    Task t = tasks[i];
                    if (t.isWaiting() && (best == null || isAhead(t, best)) && canHave(t, t.at[t.depth])) {
                        best = t;
                    }
                }
                if (best == null) {
                    return;
                }
                int s = best.at[best.depth];
                have(best, s);
                best.ready = ++turn;
                best.state = best.state == HALTED ? HELD : READY;
                onward(best, s);
            }
        }

        private void onward(Task t, int s) {
            if (statements.next[s] != NONE) {
                t.at[t.depth] = statements.next[s];
            } else {
                close(t, statements.block[s], 0);
            }
        }

        private void open(Task t, int block) {
            if (blocks.first[block] != NONE) {
                t.at[t.depth] = blocks.first[block];
            } else {
                close(t, block, 0);
            }
        }

        /** A block is over, and so may be what stands around it; a proc's block gives the result back. */
        private void close(Task t, int from, int result) {
            int block = from;
            int back = result;
            for (int i = 0; i < 1000; i++) {
                int s = blocks.owner[block];
                int kind = blocks.kind[block];
                if (kind == OF_TASK) {
                    finish(t);
                    return;
                }
                if (kind == OF_WHILE) {
                    t.at[t.depth] = s;
                    return;
                }
                if (kind == OF_REACTION) {
                    block = s;
                    continue;
                }
                if (kind == OF_PROC) {
                    t.depth--;
                    diary.procsOver++;
                    s = t.at[t.depth];
                    assign(t, statements.a[s], back);
                    back = 0;
                }
                if (statements.next[s] != NONE) {
                    t.at[t.depth] = statements.next[s];
                    return;
                }
                block = statements.block[s];
            }
        }

        /** A signal goes outward to the first reaction; a reaction's block has taken the place of the one it is of. */
        private void induce(Task t, int signal, int s) {
            diary.noteSignal(t.number, signal, s);
            t.latest = signal;
            int level = t.depth;
            int block = statements.block[s];
            for (int i = 0; i < 1000; i++) {
                int on = blocks.reactionTo(block, signal);
                if (on == NONE) {
                    on = blocks.reactionTo(block, 0);
                }
                if (on != NONE) {
                    diary.reactions++;
                    diary.procsOver += t.depth - level;
                    t.depth = level;
                    open(t, on);
                    return;
                }
                for (int j = 0; j < MOST_NESTED && blocks.kind[block] == OF_REACTION; j++) {
                    block = blocks.owner[block];
                }
                if (blocks.kind[block] == OF_TASK) {
                    finish(t);
                    return;
                }
                if (blocks.kind[block] == OF_PROC) {
                    level--;
                    block = statements.block[t.at[level]];
                } else {
                    block = statements.block[blocks.owner[block]];
                }
            }
        }

        /** The k-th task that waits for a sema, bolt or in, as they would be served; NONE. */
        int waiter(int sort, int number, int k) {
            for (int i = 0; i < taskCount; i++) {
                if (!waitsFor(tasks[i], sort, number)) {
                    continue;
                }
                int ahead = 0;
                for (int j = 0; j < taskCount; j++) {
                    if (waitsFor(tasks[j], sort, number) && isAhead(tasks[j], tasks[i])) {
                        ahead++;
                    }
                }
                if (ahead == k) {
                    return i;
                }
            }
            return NONE;
        }

        private boolean waitsFor(Task t, int sort, int number) {
            if (!t.isWaiting()) {
                return false;
            }
            int s = t.at[t.depth];
            int kind = statements.kind[s];
            if (sort == SEMA) {
                return kind == ASK && Gates.timesIn(statements.a[s], number) > 0;
            }
            boolean fits = sort == IN ? kind == TAKE : kind == RESERVE || kind == ENTER;
            return fits && statements.a[s] == number;
        }

        /** The k-th task that can come back to itself from who waits to who has the bolt. */
        int ringed(int k) {
            for (int t = 0; t < taskCount; t++) {
                reach[t] = hindering(tasks[t]);
            }
            for (int over = 0; over < taskCount; over++) {
                for (int t = 0; t < taskCount; t++) {
                    if ((reach[t] >> over & 1) == 1) {
                        reach[t] |= reach[over];
                    }
                }
            }
            int ahead = 0;
            for (int t = 0; t < taskCount; t++) {
                if ((reach[t] >> t & 1) == 1) {
                    if (ahead == k) {
                        return t;
                    }
                    ahead++;
                }
            }
            return NONE;
        }

        /** The tasks that have the bolt for which this one waits, a bit for each. */
        private int hindering(Task t) {
            int s = t.at[t.depth];
            if (!t.isWaiting() || statements.kind[s] != RESERVE && statements.kind[s] != ENTER) {
                return 0;
            }
            int bolt = statements.a[s];
            int bits = gates.reserver[bolt] == NONE ? 0 : 1 << gates.reserver[bolt];
            for (int o = 0; o < taskCount; o++) {
                if (statements.kind[s] == RESERVE && gates.entered[bolt * MOST_TASKS + o] > 0) {
                    bits |= 1 << o;
                }
            }
            return bits;
        }
    }
}
