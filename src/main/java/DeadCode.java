/** Small programs of members, what is dead in them, and a trial program without it that does the same. */
public final class DeadCode {
    public static final int UNKNOWN = -101, OUTSIDE = -102, STATE = -103, FULL = -104, NONE = -1;

    private static final int MEMBERS = 8, PLACES = 24, REGISTERS = 4, FIELDS = 4, KINDS = 13;
    private static final int SET = 0, MOVE = 1, ADD = 2, TIMES = 3, DIV = 4, IF = 5, GO = 6, LOAD = 7,
            STORE = 8, CALL = 9, GIVE = 10, CHECK = 11, SAY = 12;

    /** An instruction is kept as its kind, a, b, c; these are also the numbers that part() takes. */
    private static final int KIND = 0, A = 1, B = 2, C = 3, WIDTH = 4;

    private static final int NOTHING = 0, NUMBER = 1, REGISTER = 2, FIELD = 3, MEMBER = 4, PLACE = 5;

    /** What a, b, c are, for each kind in its order. */
    private static final int[] SHAPES = {
        REGISTER, NUMBER, NOTHING,
        REGISTER, REGISTER, NOTHING,
        REGISTER, REGISTER, REGISTER,
        REGISTER, REGISTER, REGISTER,
        REGISTER, REGISTER, REGISTER,
        REGISTER, REGISTER, PLACE,
        PLACE, NOTHING, NOTHING,
        REGISTER, FIELD, NOTHING,
        REGISTER, FIELD, NOTHING,
        REGISTER, MEMBER, NOTHING,
        REGISTER, NOTHING, NOTHING,
        REGISTER, NOTHING, NOTHING,
        REGISTER, NOTHING, NOTHING,
    };

    /** No int is one of these, so they can stand beside the constants in one row. */
    private static final long ANY = 1000000000000L, NOT_REACHED = 2000000000000L;

    private static final int REACHED = 1, ALWAYS_TAKEN = 2, NEVER_TAKEN = 4, IDLE = 8, CANNOT_FAIL = 16;
    private static final int FIELD_READ = 1, FIELD_WRITTEN = 2;

    private final Code[] program = new Code[MEMBERS];
    private final Code[] second = new Code[MEMBERS];
    private final boolean[] roots = new boolean[MEMBERS];
    private final Facts facts = new Facts();
    private final Usage usage = new Usage();
    private final Shrinker shrinker = new Shrinker();
    private final Runner runner = new Runner();
    private boolean hasTrial;

    public DeadCode() {
        for (int m = 0; m < MEMBERS; m++) {
            program[m] = new Code();
            second[m] = new Code();
        }
    }

    public int put(int member, int kind, int a, int b, int c) {
        if (!isMember(member) || kind < 0 || kind >= KINDS) {
            return UNKNOWN;
        }
        if (!isThere(kind, A, a) || !isThere(kind, B, b) || !isThere(kind, C, c)) {
            return UNKNOWN;
        }
        if (!isWithin(kind, A, a) || !isWithin(kind, B, b) || !isWithin(kind, C, c)) {
            return OUTSIDE;
        }
        if (program[member].isFull()) {
            return FULL;
        }
        return program[member].append(kind, a, b, c);
    }

    public int cut(int member) {
        return isMember(member) ? program[member].drop() : UNKNOWN;
    }

    public int root(int member, boolean on) {
        if (!isMember(member)) {
            return UNKNOWN;
        }
        boolean was = roots[member];
        roots[member] = on;
        return was == on ? 0 : 1;
    }

    public int trial() {
        usage.find(program, roots, facts);
        int fewer = 0;
        for (int m = 0; m < MEMBERS; m++) {
            second[m].drop();
            if (usage.isUsed(m)) {
                second[m].copy(program[m]);
                shrinker.shrink(second[m], facts);
            }
            fewer += program[m].count() - second[m].count();
        }
        hasTrial = true;
        return fewer;
    }

    public int run(int which, int member, int x, int y) {
        int refused = refusal(which, member);
        return refused < 0 ? refused : runner.perform(programOf(which), member, x, y);
    }

    public long told(int what) {
        switch (what) {
            case 0: return runner.given();
            case 1: return runner.done();
            case 2: return runner.spokenCount();
            default: return what >= 3 && what < 3 + FIELDS ? runner.fieldValue(what - 3) : OUTSIDE;
        }
    }

    public int said(int i) {
        return runner.spokenAt(i);
    }

    public int marks(int member, int place) {
        if (!isInstruction(member, place)) {
            return UNKNOWN;
        }
        facts.findValues(program[member]);
        facts.findReads(program[member]);
        return facts.marksAt(program[member], place);
    }

    public long known(int member, int place, int r) {
        if (!isInstruction(member, place) || !isRegister(r)) {
            return UNKNOWN;
        }
        facts.findValues(program[member]);
        return facts.valueAhead(place, r);
    }

    public int read(int member, int place, int r) {
        if (!isInstruction(member, place) || !isRegister(r)) {
            return UNKNOWN;
        }
        facts.findValues(program[member]);
        facts.findReads(program[member]);
        return facts.isReadBehind(place, r) ? 1 : 0;
    }

    public int used(int member) {
        if (!isMember(member)) {
            return UNKNOWN;
        }
        usage.find(program, roots, facts);
        return usage.isUsed(member) ? 1 : 0;
    }

    public int field(int f) {
        if (!isField(f)) {
            return UNKNOWN;
        }
        usage.find(program, roots, facts);
        return usage.ofField(f);
    }

    public int doubled(int member) {
        if (!isMember(member)) {
            return UNKNOWN;
        }
        for (int m = 0; m < member; m++) {
            if (program[m].isDoubleOf(program[member])) {
                return m;
            }
        }
        return member;
    }

    public int size(int which, int member) {
        int refused = refusal(which, member);
        return refused < 0 ? refused : programOf(which)[member].count();
    }

    public long part(int which, int member, int place, int what) {
        if (isMember(member) && (what < 0 || what >= WIDTH)) {
            return OUTSIDE;
        }
        int refused = refusal(which, member);
        if (refused < 0) {
            return refused;
        }
        Code code = programOf(which)[member];
        return code.has(place) ? code.cell(place, what) : UNKNOWN;
    }

    public int clear() {
        int dropped = 0;
        for (int m = 0; m < MEMBERS; m++) {
            dropped += program[m].drop();
            roots[m] = false;
        }
        hasTrial = false;
        runner.forget();
        return dropped;
    }

    /** Why a call that names a program and a member is refused; 0 if it is not. */
    private int refusal(int which, int member) {
        if (!isMember(member)) {
            return UNKNOWN;
        }
        if (which != 0 && which != 1) {
            return OUTSIDE;
        }
        return which == 1 && !hasTrial ? STATE : 0;
    }

    private Code[] programOf(int which) {
        return which == 0 ? program : second;
    }

    private boolean isInstruction(int member, int place) {
        return isMember(member) && program[member].has(place);
    }

    private static boolean isMember(int m) {
        return m >= 0 && m < MEMBERS;
    }

    private static boolean isRegister(int r) {
        return r >= 0 && r < REGISTERS;
    }

    private static boolean isField(int f) {
        return f >= 0 && f < FIELDS;
    }

    /** What an instruction of a kind has as its a, b or c. */
    private static int shapeOf(int kind, int what) {
        return SHAPES[kind * (WIDTH - 1) + what - 1];
    }

    private static boolean isThere(int kind, int what, int value) {
        switch (shapeOf(kind, what)) {
            case REGISTER: return isRegister(value);
            case FIELD: return isField(value);
            case MEMBER: return isMember(value);
            default: return true;
        }
    }

    private static boolean isWithin(int kind, int what, int value) {
        return shapeOf(kind, what) != PLACE || value >= 0 && value <= PLACES;
    }

    /** What ADD, TIMES, DIV make of two numbers; a divisor 0 never comes here, as nothing goes on behind it. */
    private static int together(int kind, int x, int y) {
        switch (kind) {
            case ADD: return x + y;
            case TIMES: return x * y;
            default: return y == 0 ? 0 : x / y;
        }
    }

    /** The instructions of one member. */
    private static final class Code {
        private final int[] cells = new int[PLACES * WIDTH];
        private int count;

        int count() {
            return count;
        }

        boolean has(int place) {
            return place >= 0 && place < count;
        }

        boolean isFull() {
            return count >= PLACES;
        }

        int cell(int place, int what) {
            return cells[place * WIDTH + what];
        }

        int append(int kind, int a, int b, int c) {
            int place = count;
            count++;
            write(place, kind, a, b, c);
            return place;
        }

        /** What the kind has not becomes 0, so that it never tells two instructions apart. */
        void write(int place, int kind, int a, int b, int c) {
            int at = place * WIDTH;
            cells[at + KIND] = kind;
            cells[at + A] = shapeOf(kind, A) == NOTHING ? 0 : a;
            cells[at + B] = shapeOf(kind, B) == NOTHING ? 0 : b;
            cells[at + C] = shapeOf(kind, C) == NOTHING ? 0 : c;
        }

        int drop() {
            return shorten(0);
        }

        /** Keeps the first ones alone: how many there were. */
        int shorten(int staying) {
            int had = count;
            count = staying;
            return had;
        }

        void copy(Code other) {
            System.arraycopy(other.cells, 0, cells, 0, cells.length);
            count = other.count;
        }

        /** The registers that the instruction reads, a bit each. */
        int readAt(int place) {
            int a = 1 << cell(place, A);
            switch (cell(place, KIND)) {
                case MOVE: return 1 << cell(place, B);
                case ADD: case TIMES: case DIV: return 1 << cell(place, B) | 1 << cell(place, C);
                case IF: return a | 1 << cell(place, B);
                case CALL: return 1 << 0 | 1 << 1;
                case STORE: case GIVE: case CHECK: case SAY: return a;
                default: return 0;
            }
        }

        /** The register that the instruction sets, as a bit; 0 if it sets none. */
        int setAt(int place) {
            switch (cell(place, KIND)) {
                case SET: case MOVE: case ADD: case TIMES: case DIV: case LOAD: case CALL:
                    return 1 << cell(place, A);
                default: return 0;
            }
        }

        boolean isDoubleOf(Code other) {
            if (count != other.count) {
                return false;
            }
            boolean swapped = namesThreeFirst() != other.namesThreeFirst();
            for (int place = 0; place < count; place++) {
                if (cell(place, KIND) != other.cell(place, KIND) || !hasSameParts(other, place, swapped)) {
                    return false;
                }
            }
            return true;
        }

        private boolean hasSameParts(Code other, int place, boolean swapped) {
            for (int what = A; what <= C; what++) {
                int mine = cell(place, what);
                boolean renamed = swapped && mine >= 2 && shapeOf(cell(place, KIND), what) == REGISTER;
                if ((renamed ? 5 - mine : mine) != other.cell(place, what)) {
                    return false;
                }
            }
            return true;
        }

        /** Whether register 3 is named ahead of register 2. */
        private boolean namesThreeFirst() {
            for (int place = 0; place < count; place++) {
                for (int what = A; what <= C; what++) {
                    if (shapeOf(cell(place, KIND), what) == REGISTER && cell(place, what) >= 2) {
                        return cell(place, what) == 3;
                    }
                }
            }
            return false;
        }
    }

    /**
     * What is known of one member by it alone. findValues() comes ahead of every question, and behind it
     * findReads(), if marks or reads are asked for.
     */
    private static final class Facts {
        /** A place and a register can only go from not reached to a constant to ANY: two changes each. */
        private static final int MOST_SWEEPS = 2 * PLACES * REGISTERS + 1;

        private final long[] ahead = new long[PLACES * REGISTERS];
        private final int[] readBehind = new int[PLACES];
        private final long[] brought = new long[REGISTERS];

        boolean isReached(int place) {
            return valueAhead(place, 0) != NOT_REACHED;
        }

        long valueAhead(int place, int register) {
            return ahead[place * REGISTERS + register];
        }

        boolean isReadBehind(int place, int register) {
            return (readBehind[place] & 1 << register) != 0;
        }

        int marksAt(Code code, int place) {
            if (!isReached(place)) {
                return 0;
            }
            switch (code.cell(place, KIND)) {
                case IF: return REACHED | takenMark(code, place);
                case CHECK: return canFail(code, place) ? REACHED : REACHED | CANNOT_FAIL;
                case SET: case MOVE: case ADD: case TIMES: case LOAD: return idleMark(code, place);
                case DIV: return isSafeDivision(code, place) ? idleMark(code, place) : REACHED;
                default: return REACHED;
            }
        }

        private int idleMark(Code code, int place) {
            return isReadBehind(place, code.cell(place, A)) ? REACHED : REACHED | IDLE;
        }

        private boolean canFail(Code code, int place) {
            long checked = partAhead(code, place, A);
            return checked == ANY || checked == 0;
        }

        private boolean isSafeDivision(Code code, int place) {
            long divisor = partAhead(code, place, C);
            return divisor != ANY && divisor != 0;
        }

        /** ALWAYS_TAKEN, NEVER_TAKEN, or 0 if an IF may go both ways. */
        private int takenMark(Code code, int place) {
            long x = partAhead(code, place, A);
            long y = partAhead(code, place, B);
            if (x == ANY || y == ANY) {
                return 0;
            }
            return x < y ? ALWAYS_TAKEN : NEVER_TAKEN;
        }

        /** What the register is that an instruction names as its a, b or c. */
        private long partAhead(Code code, int place, int what) {
            return ahead[place * REGISTERS + code.cells[place * WIDTH + what]];
        }

        void findValues(Code code) {
            for (int i = 0; i < ahead.length; i++) {
                ahead[i] = NOT_REACHED;
            }
            brought[0] = ANY;
            brought[1] = ANY;
            brought[2] = 0;
            brought[3] = 0;
            boolean changed = bring(code, 0);
            for (int sweep = 0; changed && sweep < MOST_SWEEPS; sweep++) {
                changed = false;
                for (int place = 0; place < code.count(); place++) {
                    if (isReached(place) && goOn(code, place)) {
                        changed = true;
                    }
                }
            }
        }

        /** Goes all ways on from a place: whether more is reached, or less is known, than before. */
        private boolean goOn(Code code, int place) {
            makeBrought(code, place);
            boolean changed = goesNext(code, place) && bring(code, place + 1);
            return bring(code, jumpFrom(code, place)) || changed;
        }

        /** Joins what is brought with what is known at a place; THE END and NONE keep nothing. */
        private boolean bring(Code code, int place) {
            if (!code.has(place)) {
                return false;
            }
            boolean changed = false;
            for (int r = 0; r < REGISTERS; r++) {
                int at = place * REGISTERS + r;
                long joined = ahead[at] == NOT_REACHED || ahead[at] == brought[r] ? brought[r] : ANY;
                changed = changed || joined != ahead[at];
                ahead[at] = joined;
            }
            return changed;
        }

        private void makeBrought(Code code, int place) {
            System.arraycopy(ahead, place * REGISTERS, brought, 0, REGISTERS);
            int kind = code.cell(place, KIND);
            int a = code.cell(place, A);
            switch (kind) {
                case SET: brought[a] = code.cell(place, B); break;
                case MOVE: brought[a] = partAhead(code, place, B); break;
                case ADD: case TIMES: case DIV:
                    brought[a] = made(kind, partAhead(code, place, B), partAhead(code, place, C));
                    break;
                case LOAD: case CALL: brought[a] = ANY; break;
                default: break;
            }
        }

        private static long made(int kind, long x, long y) {
            return x == ANY || y == ANY ? ANY : together(kind, (int) x, (int) y);
        }

        private boolean goesNext(Code code, int place) {
            switch (code.cell(place, KIND)) {
                case GO: case GIVE: return false;
                case IF: return takenMark(code, place) != ALWAYS_TAKEN;
                case DIV: return partAhead(code, place, C) != 0;
                case CHECK: return partAhead(code, place, A) != 0;
                default: return true;
            }
        }

        /** The place that an instruction can jump to; NONE if it can't. */
        private int jumpFrom(Code code, int place) {
            switch (code.cell(place, KIND)) {
                case GO: return code.cell(place, A);
                case IF: return takenMark(code, place) == NEVER_TAKEN ? NONE : code.cell(place, C);
                default: return NONE;
            }
        }

        void findReads(Code code) {
            for (int place = 0; place < PLACES; place++) {
                readBehind[place] = 0;
            }
            boolean changed = true;
            for (int sweep = 0; changed && sweep < MOST_SWEEPS; sweep++) {
                changed = false;
                for (int place = code.count() - 1; place >= 0; place--) {
                    int behind = isReached(place) ? readOn(code, place) : 0;
                    changed = changed || behind != readBehind[place];
                    readBehind[place] = behind;
                }
            }
        }

        /** The registers that are read on the ways on from a place, as far as is known yet. */
        private int readOn(Code code, int place) {
            int behind = readFrom(code, jumpFrom(code, place));
            return goesNext(code, place) ? behind | readFrom(code, place + 1) : behind;
        }

        private int readFrom(Code code, int place) {
            return code.has(place) ? code.readAt(place) | readBehind[place] & ~code.setAt(place) : 0;
        }
    }

    /** Which members are used, and what used members do with fields; find() comes ahead of every question. */
    private static final class Usage {
        private final boolean[] usedMembers = new boolean[MEMBERS];
        private final boolean[] visited = new boolean[MEMBERS];
        private final int[] ofFields = new int[FIELDS];

        boolean isUsed(int member) {
            return usedMembers[member];
        }

        int ofField(int f) {
            return ofFields[f];
        }

        void find(Code[] program, boolean[] roots, Facts facts) {
            for (int m = 0; m < MEMBERS; m++) {
                usedMembers[m] = roots[m];
                visited[m] = false;
            }
            for (int f = 0; f < FIELDS; f++) {
                ofFields[f] = 0;
            }
            for (int visits = 0; visits < MEMBERS; visits++) {
                int m = nextToVisit();
                if (m == NONE) {
                    return;
                }
                visited[m] = true;
                facts.findValues(program[m]);
                noteReached(program[m], facts);
            }
        }

        private int nextToVisit() {
            for (int m = 0; m < MEMBERS; m++) {
                if (usedMembers[m] && !visited[m]) {
                    return m;
                }
            }
            return NONE;
        }

        private void noteReached(Code code, Facts facts) {
            for (int place = 0; place < code.count(); place++) {
                if (facts.isReached(place)) {
                    note(code.cell(place, KIND), code.cell(place, B));
                }
            }
        }

        /** CALL, LOAD and STORE all have as their b what they use. */
        private void note(int kind, int b) {
            switch (kind) {
                case CALL: usedMembers[b] = true; break;
                case LOAD: ofFields[b] |= FIELD_READ; break;
                case STORE: ofFields[b] |= FIELD_WRITTEN; break;
                default: break;
            }
        }
    }

    /** Takes out of a member what is dead in it. */
    private static final class Shrinker {
        /** Each round takes out an instruction, makes an IF a GO, or draws in places beyond THE END. */
        private static final int MOST_ROUNDS = 4 * PLACES;

        /** How many of the instructions ahead of a place stay. */
        private final int[] stayingAhead = new int[PLACES + 1];

        void shrink(Code code, Facts facts) {
            boolean changed = true;
            for (int round = 0; changed && round < MOST_ROUNDS; round++) {
                facts.findValues(code);
                facts.findReads(code);
                countStaying(code, facts);
                changed = rewrite(code, facts);
            }
        }

        private void countStaying(Code code, Facts facts) {
            int staying = 0;
            for (int place = 0; place <= PLACES; place++) {
                stayingAhead[place] = staying;
                if (code.has(place) && stays(facts.marksAt(code, place))) {
                    staying++;
                }
            }
        }

        private static boolean stays(int marks) {
            return (marks & REACHED) != 0 && (marks & (NEVER_TAKEN | IDLE | CANNOT_FAIL)) == 0;
        }

        /** Moves those that stay together, in place, as none moves behind one that is still to be looked at. */
        private boolean rewrite(Code code, Facts facts) {
            boolean changed = false;
            for (int place = 0; place < code.count(); place++) {
                int marks = facts.marksAt(code, place);
                if (stays(marks)) {
                    changed = rewriteOne(code, place, (marks & ALWAYS_TAKEN) != 0) || changed;
                }
            }
            int staying = stayingAhead[PLACES];
            return code.shorten(staying) != staying || changed;
        }

        /** Whether the instruction itself became another one. */
        private boolean rewriteOne(Code code, int place, boolean alwaysTaken) {
            int to = stayingAhead[place];
            int kind = code.cell(place, KIND);
            int a = code.cell(place, A);
            int b = code.cell(place, B);
            int c = code.cell(place, C);
            if (kind == GO) {
                code.write(to, GO, stayingAhead[a], b, c);
                return stayingAhead[a] != a;
            }
            if (kind == IF && alwaysTaken) {
                code.write(to, GO, stayingAhead[c], 0, 0);
                return true;
            }
            int newC = kind == IF ? stayingAhead[c] : c;
            code.write(to, kind, a, b, newC);
            return newC != c;
        }
    }

    /** Runs a member, and keeps what is told of the latest run. */
    private static final class Runner {
        private static final int MOST_WITHIN = 8, MOST_DONE = 2000, MOST_KEPT = 60;
        private static final int GAVE = 0, DIVIDED_BY_0 = 1, CHECK_FAILED = 2, TOO_DEEP = 3, TOO_LONG = 4;

        /** A turn does an instruction or leaves a member, and none is left that was not called: 4002 at most. */
        private static final int MOST_TURNS = 10000;

        private final int[] fieldValues = new int[FIELDS];
        private final int[] spoken = new int[MOST_KEPT];
        private final int[] registers = new int[MOST_WITHIN * REGISTERS];
        private final int[] places = new int[MOST_WITHIN];
        private final int[] members = new int[MOST_WITHIN];
        private int open;
        private int done;
        private int spokenCount;
        private int given;
        private int ending;

        int given() {
            return given;
        }

        int done() {
            return done;
        }

        int spokenCount() {
            return spokenCount;
        }

        int fieldValue(int f) {
            return fieldValues[f];
        }

        int spokenAt(int i) {
            return i >= 0 && i < spokenCount && i < MOST_KEPT ? spoken[i] : 0;
        }

        void forget() {
            for (int f = 0; f < FIELDS; f++) {
                fieldValues[f] = 0;
            }
            open = 0;
            done = 0;
            spokenCount = 0;
            given = 0;
        }

        int perform(Code[] program, int member, int x, int y) {
            forget();
            ending = NONE;
            enter(member, x, y);
            for (int turn = 0; ending == NONE && turn < MOST_TURNS; turn++) {
                takeTurn(program);
            }
            return ending;
        }

        private void enter(int member, int x, int y) {
            if (open >= MOST_WITHIN) {
                ending = TOO_DEEP;
                return;
            }
            int base = open * REGISTERS;
            registers[base] = x;
            registers[base + 1] = y;
            registers[base + 2] = 0;
            registers[base + 3] = 0;
            places[open] = 0;
            members[open] = member;
            open++;
        }

        private void takeTurn(Code[] program) {
            Code code = program[members[open - 1]];
            int place = places[open - 1];
            if (!code.has(place)) {
                leave(program, 0);
            } else if (done >= MOST_DONE) {
                ending = TOO_LONG;
            } else {
                done++;
                follow(program, code, place);
            }
        }

        private void leave(Code[] program, int value) {
            open--;
            if (open == 0) {
                given = value;
                ending = GAVE;
                return;
            }
            // The caller still stands at its CALL, which names the register that waits.
            Code caller = program[members[open - 1]];
            setRegister(caller.cell(places[open - 1], A), value);
            goNext();
        }

        private void follow(Code[] program, Code code, int place) {
            int kind = code.cell(place, KIND);
            int a = code.cell(place, A);
            int b = code.cell(place, B);
            int c = code.cell(place, C);
            switch (kind) {
                case SET: setAndGo(a, b); break;
                case MOVE: setAndGo(a, register(b)); break;
                case ADD: case TIMES: setAndGo(a, together(kind, register(b), register(c))); break;
                case DIV: divide(a, register(b), register(c)); break;
                case IF: places[open - 1] = register(a) < register(b) ? c : place + 1; break;
                case GO: places[open - 1] = a; break;
                case LOAD: setAndGo(a, fieldValues[b]); break;
                case STORE: fieldValues[b] = register(a); goNext(); break;
                case CALL: enter(b, register(0), register(1)); break;
                case GIVE: leave(program, register(a)); break;
                case CHECK: check(register(a)); break;
                default: speak(register(a)); break;
            }
        }

        private void divide(int a, int x, int y) {
            if (y == 0) {
                ending = DIVIDED_BY_0;
            } else {
                setAndGo(a, together(DIV, x, y));
            }
        }

        private void check(int value) {
            if (value == 0) {
                ending = CHECK_FAILED;
            } else {
                goNext();
            }
        }

        private void speak(int value) {
            if (spokenCount < MOST_KEPT) {
                spoken[spokenCount] = value;
            }
            spokenCount++;
            goNext();
        }

        private int register(int r) {
            return registers[(open - 1) * REGISTERS + r];
        }

        private void setRegister(int r, int value) {
            registers[(open - 1) * REGISTERS + r] = value;
        }

        private void setAndGo(int r, int value) {
            setRegister(r, value);
            goNext();
        }

        private void goNext() {
            places[open - 1]++;
        }
    }
}
