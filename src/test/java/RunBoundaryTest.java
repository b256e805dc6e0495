/** Boundaries of what a RUN does (promises 6, 7, 8), sentence by sentence of the document's Terms. */
public final class RunBoundaryTest extends Bench {
    public static void main(String[] args) {
        nothingThere();
        theEnd();
        theEndMoves();
        registersAtFirst();
        registersOfEachOne();
        callSetsBehindReading();
        fieldsAtFirst();
        fieldsAreCommon();
        addWraps();
        timesWraps();
        divAsTheLanguage();
        divByZero();
        ifBelow();
        sameRegisterTwice();
        moveAndSet();
        checkOfZero();
        giveEnds();
        eightWithinOneAnother();
        depthIsNotCount();
        the2000th();
        the2001stOfEachKind();
        the2000thEndsIt();
        callsAroundThe2000th();
        ninthAroundThe2000th();
        told();
        toldStays();
        said();
        saidBeyondSixty();
        eachRunIsNew();
        all512Calls();
        checks.end("RunBoundaryTest");
    }

    private static void nothingThere() {
        DeadCode code = new DeadCode();
        for (int m = 0; m < 8; m++) {
            due("run of an empty member " + m, code.run(0, m, 5, 6), 0);
            due("it gives 0", code.told(0), 0);
            due("it does none", code.told(1), 0);
        }
        code.trial();
        for (int m = 0; m < 8; m++) {
            due("run of an empty member " + m + " of THE TRIAL", code.run(1, m, 5, 6), 0);
            due("it gives 0, too", code.told(0), 0);
        }
        dueRun("CALL of an empty member", code(row(CALL, 0, 7), row(SAY, 0), row(GIVE, 1)), 5, 6, 0, 6, 3);
        dueSaid("what an empty member gives", afterRun(code(row(CALL, 0, 7), row(SAY, 0)), 5, 6), 0);
    }

    private static DeadCode afterRun(DeadCode code, int x, int y) {
        code.run(0, 0, x, y);
        return code;
    }

    private static void theEnd() {
        for (int p = 2; p <= 24; p++) {
            dueRun("GO to THE END " + p, code(row(GO, p), row(GIVE, 0)), 5, 6, 0, 0, 1);
            dueRun("IF to THE END " + p, code(row(IF, 0, 1, p), row(GIVE, 0)), 5, 6, 0, 0, 1);
            dueRun("IF that stays " + p, code(row(IF, 1, 0, p), row(GIVE, 0)), 5, 6, 0, 5, 2);
        }
        dueRun("GO to the last place", code(row(GO, 2), row(SAY, 0), row(GIVE, 0)), 5, 6, 0, 5, 2);
        DeadCode full = addTimes(code(row(GO, 23)), 0, 22, row(SAY, 0));
        add(full, 0, row(GIVE, 1));
        dueRun("GO to place 23", full, 5, 6, 0, 6, 2);
        DeadCode other = addTimes(code(row(GO, 24)), 0, 22, row(SAY, 0));
        add(other, 0, row(GIVE, 1));
        dueRun("GO to place 24 of 24", other, 5, 6, 0, 0, 1);
        DeadCode through = addTimes(new DeadCode(), 0, 24, row(SAY, 0));
        dueRun("THE END behind place 23", through, 5, 6, 0, 0, 24);
        due("all 24 were done", through.told(2), 24);
        DeadCode back = addTimes(code(row(IF, 0, 1, 2), row(GIVE, 1)), 0, 21, row(SET, 0, 9));
        add(back, 0, row(GO, 0));
        dueRun("place 23 goes to place 0", back, 5, 6, 0, 6, 25);
    }

    private static void theEndMoves() {
        DeadCode code = code(row(GO, 2), row(SAY, 0));
        dueRun("place 2 is THE END", code, 5, 6, 0, 0, 1);
        add(code, 0, row(GIVE, 0));
        dueRun("place 2 is there now", code, 5, 6, 0, 5, 2);
        code.cut(0);
        add(code, 0, row(GO, 1));
        dueRun("what was cut does not come again", code, 5, 6, 0, 0, 1);
        DeadCode shorter = code(row(SAY, 0), row(SAY, 1), row(GIVE, 1));
        shorter.cut(0);
        add(shorter, 0, row(SAY, 0));
        dueRun("nor does it come next", shorter, 5, 6, 0, 0, 1);
    }

    private static void registersAtFirst() {
        int[] ends = {MIN, -1, 0, 1, MAX};
        for (int x : ends) {
            for (int y : ends) {
                DeadCode code = code(row(SAY, 0), row(SAY, 1), row(SAY, 2), row(SAY, 3), row(GIVE, 0));
                dueRun("given " + x + " " + y, code, x, y, 0, x, 5);
                dueSaid("registers at first", code, x, y, 0, 0);
            }
        }
    }

    private static void registersOfEachOne() {
        DeadCode code = code(row(SET, 2, 7), row(SET, 3, 8), row(CALL, 3, 1), row(SAY, 0), row(SAY, 1), row(SAY, 2),
                row(SAY, 3));
        add(code, 1, row(SAY, 0), row(SAY, 1), row(SAY, 2), row(SAY, 3), row(SET, 0, 20), row(SET, 1, 21),
                row(SET, 2, 22), row(SET, 3, 23), row(GIVE, 3));
        dueRun("each has its own registers", code, 5, 6, 0, 0, 16);
        dueSaid("given 0 and 1, with 2 and 3 0", code, 5, 6, 0, 0, 5, 6, 7, 23);
        DeadCode again = code(row(CALL, 2, 1), row(CALL, 2, 1));
        add(again, 1, row(SAY, 2), row(SAY, 3), row(SET, 2, 4), row(SET, 3, 4));
        afterRun(again, 0, 0);
        dueSaid("2 and 3 are 0 each time", again, 0, 0, 0, 0);
        DeadCode self = code(row(IF, 2, 0, 3), row(GIVE, 1), row(GIVE, 1), row(SET, 3, -1), row(ADD, 0, 0, 3),
                row(CALL, 1, 0), row(SAY, 0), row(GIVE, 1));
        dueRun("one within itself", self, 7, 33, 0, 33, 7 * 6 + 2);
        dueSaid("each has a count of its own", self, 0, 1, 2, 3, 4, 5, 6);
    }

    private static void callSetsBehindReading() {
        DeadCode code = code(row(CALL, 0, 1), row(CALL, 1, 1), row(SAY, 0), row(SAY, 1));
        add(code, 1, row(ADD, 2, 0, 1), row(GIVE, 2));
        dueRun("CALL gives 0 and 1, then sets", code, 10, 3, 0, 0, 8);
        dueSaid("0 becomes 13, then 1 becomes 16", code, 13, 16);
        for (int a = 0; a < 4; a++) {
            DeadCode one = code(row(CALL, a, 7), row(GIVE, a));
            add(one, 7, row(SET, 3, MIN), row(GIVE, 3));
            dueRun("CALL sets register " + a, one, 1, 2, 0, MIN, 4);
        }
    }

    private static void fieldsAtFirst() {
        for (int f = 0; f < 4; f++) {
            DeadCode code = code(row(LOAD, 2, f), row(SAY, 2), row(STORE, 0, f), row(LOAD, 3, f), row(GIVE, 3));
            for (int i = 0; i < 2; i++) {
                dueRun("field " + f, code, MIN, 0, 0, MIN, 5);
                dueSaid("a FIELD is 0 at first, in each RUN", code, 0);
                int[] want = new int[4];
                want[f] = MIN;
                dueFields("only this one is written", code, want);
            }
            dueRun("field " + f, code, MAX, 0, 0, MAX, 5);
        }
    }

    private static void fieldsAreCommon() {
        DeadCode code = code(row(STORE, 0, 0), row(STORE, 1, 3), row(CALL, 2, 7), row(LOAD, 0, 0), row(LOAD, 1, 3),
                row(SAY, 0), row(SAY, 1));
        add(code, 7, row(LOAD, 2, 0), row(LOAD, 3, 3), row(STORE, 3, 0), row(STORE, 2, 3));
        dueRun("a callee exchanges them", code, 5, 6, 0, 0, 11);
        dueSaid("the caller sees it", code, 6, 5);
        dueFields("as does told", code, 6, 0, 0, 5);
        DeadCode fails = code(row(STORE, 0, 1), row(CHECK, 2), row(STORE, 1, 1));
        dueRun("a RUN that fails", fails, 5, 6, 2, 0, 2);
        dueFields("keeps what was stored ahead of it", fails, 0, 5, 0, 0);
    }

    private static void binary(int kind, int x, int y, int want) {
        dueRun("kind " + kind + " of " + x + " " + y, code(row(kind, 2, 0, 1), row(GIVE, 2)), x, y, 0, want, 2);
        DeadCode fixed = code(row(SET, 0, x), row(SET, 1, y), row(kind, 3, 0, 1), row(SAY, 3));
        due("kind " + kind + " of the CONSTANTS " + x + " " + y, fixed.known(0, 3, 3), want);
    }

    private static void addWraps() {
        binary(ADD, MAX, 0, MAX);
        binary(ADD, MAX, 1, MIN);
        binary(ADD, MAX, MAX, -2);
        binary(ADD, MIN, 0, MIN);
        binary(ADD, MIN, -1, MAX);
        binary(ADD, MIN, MIN, 0);
        binary(ADD, MIN, MAX, -1);
        binary(ADD, -1, 1, 0);
    }

    private static void timesWraps() {
        binary(TIMES, 46340, 46340, 2147395600);
        binary(TIMES, 46341, 46341, -2147479015);
        binary(TIMES, 1 << 16, 1 << 15, MIN);
        binary(TIMES, 1 << 16, 1 << 16, 0);
        binary(TIMES, MIN, 1, MIN);
        binary(TIMES, MIN, -1, MIN);
        binary(TIMES, MIN, MIN, 0);
        binary(TIMES, MAX, MAX, 1);
        binary(TIMES, MAX, -1, MIN + 1);
        binary(TIMES, MAX, 2, -2);
        binary(TIMES, MAX, 0, 0);
    }

    private static void divAsTheLanguage() {
        binary(DIV, 7, 2, 3);
        binary(DIV, -7, 2, -3);
        binary(DIV, 7, -2, -3);
        binary(DIV, -7, -2, 3);
        binary(DIV, 1, 2, 0);
        binary(DIV, -1, 2, 0);
        binary(DIV, 0, MIN, 0);
        binary(DIV, MIN, 1, MIN);
        binary(DIV, MIN, -1, MIN);
        binary(DIV, MAX, -1, MIN + 1);
        binary(DIV, MIN, MIN, 1);
        binary(DIV, MAX, MIN, 0);
        binary(DIV, MIN, MAX, -1);
        binary(DIV, MIN, 2, MIN / 2);
    }

    private static void divByZero() {
        for (int x : new int[] {MIN, -1, 0, 1, MAX}) {
            DeadCode code = code(row(DIV, 0, 0, 1), row(SAY, 0), row(GIVE, 0));
            dueRun("DIV of " + x + " by 0", code, x, 0, 1, 0, 1);
            dueSaid("nothing comes behind it", code);
        }
        DeadCode within = code(row(CALL, 2, 1), row(SAY, 0), row(GIVE, 0));
        add(within, 1, row(DIV, 2, 1, 3), row(GIVE, 1));
        dueRun("DIV by 0 within a CALL ends the whole RUN", within, 5, 6, 1, 0, 2);
        dueSaid("the caller does not go on", within);
    }

    private static void ifBelow() {
        int[][] taken = {{-1, 0}, {0, 1}, {MIN, MIN + 1}, {MAX - 1, MAX}, {MIN, MAX}, {MIN, 0}, {-2, MAX}, {MIN, -1}};
        for (int[] one : taken) {
            branch(one[0], one[1], true);
            branch(one[1], one[0], false);
            branch(one[0], one[0], false);
            branch(one[1], one[1], false);
        }
    }

    private static void branch(int x, int y, boolean taken) {
        String what = "IF of " + x + " " + y;
        DeadCode code = code(row(IF, 0, 1, 2), row(GIVE, 0), row(SAY, 0));
        dueRun(what, code, x, y, 0, taken ? 0 : x, 2);
        due(what, code.told(2), taken ? 1 : 0);
        DeadCode fixed = code(row(SET, 2, x), row(SET, 3, y), row(IF, 2, 3, 4), row(GIVE, 0), row(SAY, 0));
        dueMarks(what + " as CONSTANTS", fixed, 1, 1, taken ? 3 : 5, taken ? 0 : 1, taken ? 1 : 0);
    }

    private static void sameRegisterTwice() {
        dueRun("ADD of a to itself", code(row(ADD, 0, 0, 0), row(GIVE, 0)), 1 << 30, 0, 0, MIN, 2);
        dueRun("TIMES of a by itself", code(row(TIMES, 1, 1, 1), row(GIVE, 1)), 0, -3, 0, 9, 2);
        dueRun("DIV of a by itself", code(row(DIV, 0, 0, 0), row(GIVE, 0)), MIN, 0, 0, 1, 2);
        dueRun("DIV of 0 by itself", code(row(DIV, 0, 0, 0), row(GIVE, 0)), 0, 0, 1, 0, 1);
        dueRun("DIV sets its divisor", code(row(DIV, 1, 0, 1), row(GIVE, 1)), 17, 5, 0, 3, 2);
        dueRun("MOVE to itself", code(row(MOVE, 0, 0), row(GIVE, 0)), MIN, 0, 0, MIN, 2);
        dueRun("IF of a and a", code(row(IF, 0, 0, 2), row(GIVE, 1)), MIN, 4, 0, 4, 2);
    }

    private static void moveAndSet() {
        for (int a = 0; a < 4; a++) {
            for (int n : new int[] {MIN, -1, 0, MAX}) {
                dueRun("SET " + a + " " + n, code(row(SET, a, n), row(GIVE, a)), 5, 6, 0, n, 2);
            }
            for (int b = 0; b < 4; b++) {
                DeadCode code = code(row(SET, 2, 7), row(SET, 3, 8), row(MOVE, a, b), row(SAY, 0), row(SAY, 1),
                        row(SAY, 2), row(SAY, 3));
                int[] want = {5, 6, 7, 8};
                want[a] = want[b];
                afterRun(code, 5, 6);
                dueSaid("MOVE " + a + " " + b, code, want);
            }
        }
    }

    private static void checkOfZero() {
        for (int x : new int[] {MIN, -1, 1, MAX}) {
            dueRun("CHECK of " + x, code(row(CHECK, 0), row(GIVE, 0)), x, 0, 0, x, 2);
        }
        dueRun("CHECK of 0", code(row(CHECK, 0), row(GIVE, 1)), 0, 5, 2, 0, 1);
        dueRun("CHECK of register 3 at first", code(row(CHECK, 3), row(GIVE, 1)), 1, 5, 2, 0, 1);
        DeadCode within = code(row(CALL, 2, 7), row(SAY, 0), row(GIVE, 0));
        add(within, 7, row(SAY, 1), row(CHECK, 2));
        dueRun("CHECK within a CALL ends the whole RUN", within, 5, 6, 2, 0, 3);
        dueSaid("what was said ahead of it stays", within, 6);
    }

    private static void giveEnds() {
        for (int a = 0; a < 4; a++) {
            int[] want = {MIN, MAX, 0, 0};
            dueRun("GIVE " + a, code(row(GIVE, a), row(SAY, 0)), MIN, MAX, 0, want[a], 1);
        }
        dueRun("it can give what looks like an answer", code(row(GIVE, 0)), UNKNOWN, 0, 0, UNKNOWN, 1);
        dueRun("THE END gives 0", code(row(SET, 0, 4)), 5, 6, 0, 0, 1);
        DeadCode within = code(row(CALL, 2, 1), row(SAY, 2), row(CALL, 2, 2), row(SAY, 2));
        add(within, 1, row(GIVE, 0), row(SAY, 1));
        add(within, 2, row(SET, 0, 4));
        dueRun("the caller goes on behind its CALL", within, 5, 6, 0, 0, 6);
        dueSaid("GIVE gives, THE END gives 0", within, 5, 0);
    }

    /** Members 0 .. last - 1 call the next one each, and give what it gives. */
    private static DeadCode chain(int last) {
        DeadCode code = new DeadCode();
        for (int m = 0; m < last; m++) {
            add(code, m, row(CALL, 2, m + 1), row(GIVE, 2));
        }
        return code;
    }

    private static void eightWithinOneAnother() {
        dueRun("7 within one another", add(chain(6), 6, row(GIVE, 1)), 1, 55, 0, 55, 13);
        dueRun("8 within one another", add(chain(7), 7, row(GIVE, 1)), 1, 55, 0, 55, 15);
        DeadCode nine = add(chain(7), 7, row(SAY, 0), row(CALL, 2, 0), row(SAY, 1));
        dueRun("the 9th", nine, 1, 55, 3, 0, 9);
        dueSaid("the CALL of the 9th ends it", nine, 1);
        DeadCode empty = chain(7);
        dueRun("the 8th is empty", empty, 1, 55, 0, 0, 14);
        DeadCode self = code(row(CALL, 2, 0));
        dueRun("one within itself", self, 1, 55, 3, 0, 8);
        DeadCode two = code(row(CALL, 2, 7), row(GIVE, 2));
        add(two, 7, row(CALL, 2, 0), row(GIVE, 2));
        dueRun("two within one another", two, 1, 55, 3, 0, 8);
        DeadCode ninthEmpty = code(row(IF, 2, 0, 3), row(CALL, 2, 7), row(GIVE, 1), row(SET, 3, -1), row(ADD, 0, 0, 3),
                row(CALL, 2, 0), row(GIVE, 2));
        dueRun("the 8th that is called is empty", ninthEmpty, 6, 55, 0, 55, 6 * 5 + 3);
        dueRun("the 9th would be, too", ninthEmpty, 7, 55, 3, 0, 7 * 4 + 2);
        DeadCode seventh = add(new DeadCode(), 7, row(CALL, 0, 7));
        due("a RUN of member 7 within itself", seventh.run(0, 7, 0, 0), 3);
    }

    private static void depthIsNotCount() {
        DeadCode many = addTimes(new DeadCode(), 0, 24, row(CALL, 0, 1));
        add(many, 1, row(SAY, 0));
        dueRun("24 one behind another", many, 1, 2, 0, 0, 48);
        DeadCode twice = add(chain(7), 7, row(GIVE, 1));
        twice.cut(0);
        add(twice, 0, row(CALL, 2, 1), row(CALL, 2, 1), row(CALL, 3, 1), row(GIVE, 3));
        dueRun("8 within one another, three times", twice, 1, 55, 0, 55, 4 + 3 * 13);
        DeadCode late = add(chain(6), 6, row(CALL, 2, 7), row(CALL, 2, 7), row(CALL, 2, 5));
        dueRun("8, 8, and then a 9th", late, 1, 55, 3, 0, 6 + 3 + 1);
    }

    /** Does 3 * x + 3 instructions, then the tail; registers are then x, y, x, 1. */
    private static int[][] burning(int[]... tail) {
        int[][] rows = new int[5 + tail.length][];
        rows[0] = row(SET, 3, 1);
        rows[1] = row(IF, 2, 0, 3);
        rows[2] = row(GO, 5);
        rows[3] = row(ADD, 2, 2, 3);
        rows[4] = row(GO, 1);
        System.arraycopy(tail, 0, rows, 5, tail.length);
        return rows;
    }

    /** With this x, the tail's first instruction is the 1999th. */
    private static final int TO_1999TH = 665;

    private static void the2000th() {
        DeadCode three = code(burning(row(SAY, 1)));
        dueRun("1999, and THE END", three, TO_1999TH, 6, 0, 0, 1999);
        DeadCode end = code(burning(row(SAY, 1), row(SAY, 2)));
        dueRun("2000, and THE END", end, TO_1999TH, 6, 0, 0, 2000);
        dueSaid("the 2000th is done", end, 6, TO_1999TH);
        DeadCode gives = code(burning(row(SAY, 1), row(GIVE, 1)));
        dueRun("the 2000th gives", gives, TO_1999TH, 6, 0, 6, 2000);
        DeadCode stores = code(burning(row(SAY, 1), row(STORE, 1, 3)));
        dueRun("the 2000th stores", stores, TO_1999TH, 6, 0, 0, 2000);
        dueFields("it is stored", stores, 0, 0, 0, 6);
        DeadCode goes = code(burning(row(SAY, 1), row(GO, 24)));
        dueRun("the 2000th goes to THE END", goes, TO_1999TH, 6, 0, 0, 2000);
        dueRun("a loop without an end", code(row(GO, 0)), 5, 6, 4, 0, 2000);
        dueRun("an IF that is its own way on", code(row(IF, 0, 1, 0), row(GIVE, 0)), 5, 6, 4, 0, 2000);
        dueRun("the same IF, not taken", code(row(IF, 0, 1, 0), row(GIVE, 0)), 6, 6, 0, 6, 2);
    }

    private static void the2001stOfEachKind() {
        int[][] last = {row(SET, 0, 9), row(MOVE, 0, 1), row(ADD, 0, 0, 1), row(TIMES, 0, 0, 1), row(DIV, 0, 0, 1),
            row(IF, 0, 1, 24), row(GO, 24), row(LOAD, 0, 0), row(STORE, 2, 2), row(CALL, 0, 7), row(GIVE, 2),
            row(CHECK, 1), row(SAY, 2)};
        for (int kind = 0; kind < 13; kind++) {
            due("a kind each", last[kind][0], kind);
            DeadCode code = code(burning(row(STORE, 3, 1), row(SAY, 3), last[kind]));
            dueRun("the 2001st is of kind " + kind, code, TO_1999TH, 0, 4, 0, 2000);
            dueSaid("it does nothing", code, 1);
            dueFields("it does nothing", code, 0, 1, 0, 0);
        }
    }

    private static void the2000thEndsIt() {
        dueRun("the 2000th is DIV by 0", code(burning(row(SAY, 1), row(DIV, 0, 0, 1), row(SAY, 1))),
                TO_1999TH, 0, 1, 0, 2000);
        dueRun("the 2000th is CHECK of 0", code(burning(row(SAY, 1), row(CHECK, 1), row(SAY, 1))),
                TO_1999TH, 0, 2, 0, 2000);
        dueRun("the 2000th is CHECK of 1", code(burning(row(SAY, 1), row(CHECK, 3), row(SAY, 1))),
                TO_1999TH, 0, 4, 0, 2000);
    }

    private static void callsAroundThe2000th() {
        DeadCode empty = code(burning(row(SAY, 1), row(CALL, 0, 7)));
        dueRun("the 2000th calls an empty one", empty, TO_1999TH, 6, 0, 0, 2000);
        DeadCode more = add(code(burning(row(SAY, 1), row(CALL, 0, 7))), 7, row(GIVE, 1));
        dueRun("the 2001st would be within it", more, TO_1999TH, 6, 4, 0, 2000);
        DeadCode back = add(code(burning(row(CALL, 0, 7))), 7, row(GIVE, 1));
        dueRun("the 2000th gives to the caller, which is at THE END", back, TO_1999TH, 6, 0, 0, 2000);
        DeadCode on = add(code(burning(row(CALL, 0, 7), row(GIVE, 0))), 7, row(GIVE, 1));
        dueRun("the 2001st would be the caller's GIVE", on, TO_1999TH, 6, 4, 0, 2000);
        DeadCode ends = add(code(burning(row(CALL, 0, 7), row(SAY, 0))), 7, row(SAY, 1));
        dueRun("the 2001st would be said by the caller", ends, TO_1999TH, 6, 4, 0, 2000);
        dueSaid("it is not", ends, 6);
        DeadCode together = code(row(CALL, 2, 1), row(CALL, 2, 1), row(SAY, 3));
        add(together, 1, burning());
        dueRun("both calls' instructions count", together, 331, 0, 0, 0, 3 + 2 * 996);
        dueRun("beyond 2000 together", together, 333, 0, 4, 0, 2000);
    }

    private static void ninthAroundThe2000th() {
        DeadCode calls = add(chain(7), 7, burning(row(CALL, 2, 0)));
        dueRun("the 2000th calls the 9th", calls, 663, 0, 3, 0, 2000);
        DeadCode late = add(chain(7), 7, burning(row(SAY, 2), row(CALL, 2, 0)));
        dueRun("the 2001st would call the 9th", late, 663, 0, 4, 0, 2000);
    }

    private static void told() {
        DeadCode code = code(row(STORE, 0, 0), row(STORE, 1, 1), row(SAY, 0), row(SAY, 1), row(SAY, 2),
                row(ADD, 2, 0, 1), row(STORE, 2, 2), row(MOVE, 3, 1), row(STORE, 3, 3), row(GIVE, 0));
        long[] without = {OUTSIDE, 0, 0, 0, 0, 0, 0, 0, OUTSIDE};
        dueTellings("without a RUN", code, without);
        code.run(0, 0, MAX, MIN);
        dueTellings("of a RUN", code, OUTSIDE, MAX, 10, 3, MAX, MIN, -1, MIN, OUTSIDE);
        due("told MIN", code.told(MIN), OUTSIDE);
        due("told MAX", code.told(MAX), OUTSIDE);
        code.run(0, 1, MAX, MIN);
        dueTellings("of a RUN that does nothing", code, without);
        add(code, 1, row(STORE, 0, 3), row(CALL, 0, 1));
        due("one within itself", code.run(0, 1, -4, 0), 3);
        dueTellings("of a RUN that ended with 3", code, OUTSIDE, 0, 16, 0, 0, 0, 0, -4, OUTSIDE);
        code.clear();
        dueTellings("behind clear", code, without);
    }

    /** What told() answers to -1 .. 7. */
    private static void dueTellings(String what, DeadCode code, long... want) {
        for (int i = 0; i < 9; i++) {
            due(what + ": told " + (i - 1), code.told(i - 1), want[i]);
        }
    }

    private static void toldStays() {
        DeadCode code = code(row(SAY, 0), row(STORE, 1, 2), row(GIVE, 1));
        code.run(0, 0, 8, 9);
        long[] want = {OUTSIDE, 9, 3, 1, 0, 0, 9, 0, OUTSIDE};
        code.put(0, SAY, 1, 0, 0);
        dueTellings("behind put", code, want);
        code.cut(0);
        dueTellings("behind cut", code, want);
        code.root(0, true);
        dueTellings("behind root", code, want);
        code.trial();
        dueTellings("behind trial", code, want);
        due("a refused RUN", code.run(0, 8, 0, 0), UNKNOWN);
        due("a refused RUN", code.run(2, 0, 0, 0), OUTSIDE);
        dueTellings("behind refused ones", code, want);
        dueSaid("what was said stays, too", code, 8);
        due("a RUN of THE TRIAL is a RUN", code.run(1, 0, 1, 1), 0);
        dueTellings("behind that", code, OUTSIDE, 0, 0, 0, 0, 0, 0, 0, OUTSIDE);
        dueSaid("nothing is said in it", code);
    }

    private static void said() {
        DeadCode code = new DeadCode();
        due("said 0 without a RUN", code.said(0), 0);
        due("said -1 without a RUN", code.said(-1), 0);
        add(code, 0, row(SAY, 0), row(SAY, 1));
        code.run(0, 0, MIN, MAX);
        dueSaid("two", code, MIN, MAX);
        due("said -1", code.said(-1), 0);
        due("said MIN", code.said(MIN), 0);
        due("said MAX", code.said(MAX), 0);
        due("said 59", code.said(59), 0);
    }

    /** Says 1 .. x. */
    private static DeadCode counting() {
        return code(row(SET, 3, 1), row(IF, 2, 0, 3), row(GIVE, 2), row(ADD, 2, 2, 3), row(SAY, 2), row(GO, 1));
    }

    private static void saidBeyondSixty() {
        DeadCode code = counting();
        for (int x : new int[] {0, 1, 58, 59, 60, 61, 62, 120}) {
            dueRun("counting to " + x, code, x, 0, 0, x, 3 + 4 * x);
            due("it is said " + x + " times", code.told(2), x);
            for (int i : new int[] {-1, 0, 57, 58, 59, 60, 61, 62, 119}) {
                due("said " + i + " of " + x, code.said(i), i >= 0 && i < x && i < 60 ? i + 1 : 0);
            }
        }
        DeadCode most = code(row(SAY, 0), row(GO, 0));
        dueRun("saying without an end", most, -7, 0, 4, 0, 2000);
        due("1000 times", most.told(2), 1000);
        due("the 60th", most.said(59), -7);
        due("the 61st", most.said(60), 0);
        due("the last", most.said(999), 0);
    }

    private static void eachRunIsNew() {
        int[][] endings = {row(GIVE, 0), row(DIV, 0, 0, 2), row(CHECK, 2), row(CALL, 0, 1), row(GO, 3)};
        for (int how = 0; how < 5; how++) {
            DeadCode code = code(row(STORE, 0, 2), row(SAY, 0), row(CALL, 0, 2), endings[how]);
            add(code, 1, row(CALL, 0, 1));
            add(code, 2, row(GIVE, 0));
            due("a RUN ends with " + how, code.run(0, 0, 5, 6), how);
            add(code, 3, row(LOAD, 2, 2), row(SAY, 2), row(SAY, 3));
            due("the next one", code.run(0, 3, 8, 9), 0);
            dueSaid("nothing of the former is left", code, 0, 0);
            dueFields("nothing of the former is left", code, 0, 0, 0, 0);
            due("nothing of the former is left", code.told(1), 3);
        }
    }

    /** An object is used for 512 calls. */
    private static void all512Calls() {
        DeadCode code = new DeadCode();
        for (int call = 1; call < 511; call++) {
            boolean full = call % 26 == 25;
            boolean cuts = call % 26 == 0;
            if (cuts) {
                due("call " + call + " cuts", code.cut(7), 24);
            } else {
                due("call " + call + " puts", code.put(7, SAY, 0, 0, 0), full ? FULL : call % 26 - 1);
            }
        }
        due("the 511th call", code.run(0, 7, 5, 6), 0);
        due("the 512th call", code.told(2), 510 % 26);
    }
}
