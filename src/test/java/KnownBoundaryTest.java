/** Boundaries of what is known, read, marked, used and doubled (promises 9 to 14), sentence by sentence. */
public final class KnownBoundaryTest extends Bench {
    public static void main(String[] args) {
        theBegin();
        nothingOrFull();
        whatAllWaysBring();
        waysBackToTheBegin();
        madeOfConstants();
        madeOfAny();
        divisionsGoOn();
        ifGoesOn();
        checkAndGiveGoOn();
        endsOfNumbers();
        mostThatCanBeKnown();
        knownByItAlone();
        farthestWays();
        mostLaps();
        readAtTheEnd();
        readOrSetFirst();
        callReadsThenSets();
        readHoweverTheyGo();
        readOnWaysThatGoOn();
        readInLoops();
        marksOfIf();
        marksOfIdle();
        marksOfDiv();
        marksOfCheck();
        noOtherIsIdle();
        usedByNone();
        usedThroughOthers();
        usedWhereReached();
        fieldBits();
        fieldsOfUsedOnly();
        doubledByCount();
        doubledByParts();
        doubledByNames();
        doubledIsTheLeast();
        checks.end("KnownBoundaryTest");
    }

    private static void theBegin() {
        DeadCode code = code(row(SAY, 0));
        dueKnown("THE BEGIN", code, 0, ANY, ANY, 0, 0);
        due("it is REACHED", code.marks(0, 0), 1);
        for (int m = 1; m < 8; m++) {
            due("place 0 is THE END of " + m, code.known(m, 0, 2), UNKNOWN);
            due("it has no MARKS", code.marks(m, 0), UNKNOWN);
            due("nothing is READ there", code.read(m, 0, 2), UNKNOWN);
        }
    }

    private static void nothingOrFull() {
        DeadCode code = addTimes(new DeadCode(), 7, 23, row(ADD, 2, 2, 3));
        add(code, 7, row(SAY, 2));
        due("known at place 23", code.known(7, 23, 2), 0);
        due("known at place 24", code.known(7, 24, 2), UNKNOWN);
        due("marks of place 23", code.marks(7, 23), 1);
        due("marks of place 24", code.marks(7, 24), UNKNOWN);
        due("read behind place 22", code.read(7, 22, 2), 1);
        due("read behind place 23", code.read(7, 23, 2), 0);
        due("read behind place 24", code.read(7, 24, 2), UNKNOWN);
        for (int size = 1; size <= 24; size++) {
            DeadCode part = addTimes(new DeadCode(), 3, size, row(SET, 3, size));
            due("the last place of " + size, part.known(3, size - 1, 3), size == 1 ? 0 : size);
            due("THE END of " + size, part.known(3, size, 3), UNKNOWN);
            due("marks at THE END of " + size, part.marks(3, size), UNKNOWN);
            due("read at THE END of " + size, part.read(3, size, 3), UNKNOWN);
        }
    }

    private static void whatAllWaysBring() {
        DeadCode same = code(row(IF, 0, 1, 3), row(SET, 2, 7), row(GO, 4), row(SET, 2, 7), row(SAY, 2));
        dueKnown("both bring 7", same, 4, ANY, ANY, 7, 0);
        DeadCode other = code(row(IF, 0, 1, 3), row(SET, 2, 7), row(GO, 4), row(SET, 2, 8), row(SAY, 2));
        dueKnown("7 and 8", other, 4, ANY, ANY, ANY, 0);
        DeadCode half = code(row(IF, 0, 1, 3), row(SET, 2, 7), row(GO, 4), row(LOAD, 2, 0), row(SAY, 2));
        dueKnown("7 and ANY", half, 4, ANY, ANY, ANY, 0);
        DeadCode third = code(row(IF, 0, 1, 4), row(IF, 1, 0, 5), row(SET, 2, 7), row(GO, 6), row(SET, 2, 7),
                row(SET, 3, 0), row(SAY, 2));
        dueKnown("7 from two ways, 0 from the third", third, 6, ANY, ANY, ANY, 0);
        DeadCode unlike = code(row(IF, 0, 1, 3), row(SET, 0, 0), row(GO, 4), row(SET, 0, 0), row(SAY, 2));
        dueKnown("0 was ANY, and is 0 on both", unlike, 4, 0, ANY, 0, 0);
        DeadCode away = code(row(IF, 0, 1, 3), row(SET, 2, 7), row(GIVE, 2), row(SET, 2, 8), row(SAY, 2));
        dueKnown("a way that ends brings nothing", away, 4, ANY, ANY, 8, 0);
    }

    private static void waysBackToTheBegin() {
        DeadCode code = code(row(SET, 0, 4), row(SET, 3, 1), row(GO, 0));
        dueKnown("what is brought back joins", code, 0, ANY, ANY, 0, ANY);
        DeadCode zero = code(row(SET, 0, 4), row(SET, 3, 0), row(GO, 0));
        dueKnown("0 brought back is still 0", zero, 0, ANY, ANY, 0, 0);
        DeadCode self = code(row(GO, 0), row(SAY, 0));
        dueKnown("GO to itself", self, 0, ANY, ANY, 0, 0);
        dueLost("nothing comes behind it", self, 1);
        DeadCode test = code(row(IF, 0, 1, 0), row(SAY, 0));
        dueKnown("IF to itself", test, 0, ANY, ANY, 0, 0);
        dueKnown("what comes behind it", test, 1, ANY, ANY, 0, 0);
    }

    private static void madeOfConstants() {
        DeadCode code = code(row(SET, 0, 6), row(SET, 1, -4), row(MOVE, 2, 1), row(ADD, 2, 0, 1), row(TIMES, 3, 0, 1),
                row(DIV, 0, 0, 1), row(SAY, 0));
        dueKnown("SET", code, 1, 6, ANY, 0, 0);
        dueKnown("SET", code, 2, 6, -4, 0, 0);
        dueKnown("MOVE", code, 3, 6, -4, -4, 0);
        dueKnown("ADD", code, 4, 6, -4, 2, 0);
        dueKnown("TIMES", code, 5, 6, -4, 2, -24);
        dueKnown("DIV", code, 6, -1, -4, 2, -24);
    }

    private static void madeOfAny() {
        for (int kind : new int[] {ADD, TIMES, DIV}) {
            int[][] parts = {{0, 0}, {0, 1}, {0, 2}, {2, 0}};
            for (int[] two : parts) {
                DeadCode code = code(row(SET, 2, 1), row(kind, 3, two[0], two[1]), row(SAY, 3));
                dueKnown("kind " + kind + " of " + two[0] + " " + two[1], code, 2, ANY, ANY, 1, ANY);
            }
        }
        dueKnown("ANY times 0", code(row(TIMES, 0, 0, 2), row(SAY, 0)), 1, ANY, ANY, 0, 0);
        dueKnown("0 by ANY", code(row(DIV, 2, 2, 0), row(SAY, 0)), 1, ANY, ANY, ANY, 0);
        dueKnown("MOVE of ANY", code(row(MOVE, 2, 0), row(SAY, 0)), 1, ANY, ANY, ANY, 0);
        dueKnown("LOAD", code(row(LOAD, 2, 0), row(SAY, 0)), 1, ANY, ANY, ANY, 0);
        dueKnown("LOAD of what was stored", code(row(STORE, 2, 0), row(LOAD, 2, 0), row(SAY, 0)), 2, ANY, ANY, ANY, 0);
        dueKnown("CALL", code(row(SET, 0, 3), row(CALL, 2, 7), row(SAY, 0)), 2, 3, ANY, ANY, 0);
    }

    private static void divisionsGoOn() {
        dueLost("ANY by 0", code(row(DIV, 0, 0, 2), row(SAY, 0)), 1);
        dueLost("0 by 0", code(row(DIV, 2, 2, 3), row(SAY, 0)), 1);
        DeadCode both = code(row(IF, 0, 1, 2), row(SET, 2, 1), row(DIV, 3, 0, 2), row(SAY, 0));
        dueKnown("by 0 on one way, by 1 on the other", both, 3, ANY, ANY, ANY, ANY);
        for (int n : new int[] {MIN, -1, 1, MAX}) {
            DeadCode code = code(row(SET, 2, n), row(DIV, 3, 0, 2), row(SAY, 0));
            dueKnown("ANY by " + n, code, 2, ANY, ANY, n, ANY);
        }
    }

    private static void ifGoesOn() {
        DeadCode taken = code(row(SET, 2, -1), row(IF, 2, 3, 3), row(SAY, 0), row(SAY, 1));
        dueLost("an IF that is always taken", taken, 2);
        dueKnown("where it goes", taken, 3, ANY, ANY, -1, 0);
        DeadCode stays = code(row(IF, 2, 3, 3), row(SAY, 0), row(GIVE, 0), row(SAY, 1));
        dueKnown("an IF that never is", stays, 1, ANY, ANY, 0, 0);
        dueLost("where it never goes", stays, 3);
        int[][] either = {{0, 2}, {2, 0}, {0, 1}, {0, 0}};
        for (int[] two : either) {
            DeadCode code = code(row(IF, two[0], two[1], 3), row(SAY, 0), row(GIVE, 0), row(SAY, 1));
            dueKnown("an IF with ANY", code, 1, ANY, ANY, 0, 0);
            dueKnown("an IF with ANY", code, 3, ANY, ANY, 0, 0);
        }
        for (int p = 3; p <= 24; p++) {
            DeadCode end = code(row(SET, 2, -1), row(IF, 2, 3, p), row(SAY, 0));
            dueLost("an IF that always goes to THE END", end, 2);
        }
        DeadCode next = code(row(IF, 0, 1, 1), row(SAY, 0));
        dueKnown("an IF to the next place", next, 1, ANY, ANY, 0, 0);
        DeadCode always = code(row(SET, 3, 1), row(IF, 2, 3, 2), row(SAY, 0));
        dueKnown("an IF of CONSTANTS to the next place", always, 2, ANY, ANY, 0, 1);
    }

    private static void checkAndGiveGoOn() {
        dueLost("CHECK of 0", code(row(CHECK, 2), row(SAY, 0)), 1);
        dueKnown("CHECK of ANY", code(row(CHECK, 0), row(SAY, 0)), 1, ANY, ANY, 0, 0);
        for (int n : new int[] {MIN, -1, 1, MAX}) {
            dueKnown("CHECK of " + n, code(row(SET, 2, n), row(CHECK, 2), row(SAY, 0)), 2, ANY, ANY, n, 0);
        }
        dueLost("GIVE", code(row(GIVE, 0), row(SAY, 0)), 1);
        dueLost("GIVE of a CONSTANT", code(row(GIVE, 2), row(SAY, 0)), 1);
        dueLost("GO", code(row(GO, 2), row(SAY, 0), row(SAY, 0)), 1);
        dueKnown("STORE", code(row(STORE, 2, 0), row(SAY, 0)), 1, ANY, ANY, 0, 0);
        dueKnown("SAY", code(row(SAY, 2), row(SAY, 0)), 1, ANY, ANY, 0, 0);
    }

    private static void endsOfNumbers() {
        for (int n : new int[] {MIN, MIN + 1, UNKNOWN, -1, 0, 1, MAX - 1, MAX}) {
            DeadCode code = code(row(SET, 0, n), row(MOVE, 3, 0), row(SAY, 0));
            dueKnown("the CONSTANT " + n, code, 2, n, ANY, 0, n);
        }
    }

    private static void mostThatCanBeKnown() {
        DeadCode code = code(row(IF, 2, 3, 3), row(IF, 0, 1, 0), row(GIVE, 2), row(SET, 2, 1), row(GO, 0));
        dueKnown("a way that is never gone brings nothing", code, 0, ANY, ANY, 0, 0);
        dueLost("it is not REACHED", code, 3);
        dueLost("it is not REACHED", code, 4);
        DeadCode loop = code(row(SET, 2, 5), row(ADD, 3, 2, 2), row(IF, 0, 1, 1), row(SAY, 3));
        dueKnown("a loop brings what it found", loop, 1, ANY, ANY, 5, ANY);
        dueKnown("a loop brings what it found", loop, 3, ANY, ANY, 5, 10);
        DeadCode late = code(row(IF, 2, 3, 4), row(SET, 3, 1), row(GO, 0), row(SAY, 0), row(SAY, 1));
        dueKnown("known at first, not later", late, 0, ANY, ANY, 0, ANY);
        dueKnown("then both ways are gone", late, 4, ANY, ANY, 0, ANY);
        dueLost("but not this one", late, 3);
        DeadCode counts = code(row(SET, 3, 1), row(ADD, 2, 2, 3), row(IF, 2, 0, 1), row(SAY, 2));
        dueKnown("a count is ANY", counts, 3, ANY, ANY, ANY, 1);
    }

    private static void knownByItAlone() {
        DeadCode code = code(row(SAY, 0), row(SET, 2, 4), row(SAY, 2));
        add(code, 1, row(SET, 0, 4), row(CALL, 2, 0), row(SAY, 2));
        code.root(1, true);
        dueKnown("callers tell nothing", code, 0, ANY, ANY, 0, 0);
        due("callees tell nothing", code.known(1, 2, 2), ANY);
        due("of a member that is not USED, too", add(code, 7, row(SET, 1, 9), row(SAY, 1)).known(7, 1, 1), 9);
        dueKnown("members do not mix", code, 2, ANY, ANY, 4, 0);
        code.cut(0);
        add(code, 0, row(SAY, 0), row(SAY, 0), row(SAY, 2));
        dueKnown("of the program as it is", code, 2, ANY, ANY, 0, 0);
    }

    /** Place 0 goes to 23, which goes to 22, .. : each place is REACHED only through the one behind it. */
    private static void farthestWays() {
        DeadCode code = code(row(GO, 23), row(SAY, 2));
        for (int place = 2; place < 24; place++) {
            add(code, 0, row(GO, place - 1));
        }
        for (int place = 0; place < 24; place++) {
            due("REACHED from behind: " + place, code.marks(0, place), 1);
            due("READ from behind: " + place, code.read(0, place, 2), 1);
        }
        dueKnown("0 all the way", code, 1, ANY, ANY, 0, 0);
        dueKnown("and behind it", code, 2, ANY, ANY, 0, 0);
    }

    /** A ring from place 23 down to 8, then 3 to 7, and back: each lap tells of one register more. */
    private static DeadCode ring(int[]... rows) {
        DeadCode code = code(rows);
        for (int place = 9; place <= 23; place++) {
            add(code, 0, row(GO, place - 1));
        }
        return code;
    }

    private static void mostLaps() {
        DeadCode known = ring(row(SET, 0, 0), row(SET, 1, 0), row(GO, 23), row(MOVE, 0, 1), row(MOVE, 1, 2),
                row(MOVE, 2, 3), row(SET, 3, 7), row(GO, 23), row(GO, 3));
        for (int place = 8; place <= 23; place++) {
            dueKnown("each lap makes one more ANY", known, place, ANY, ANY, ANY, ANY);
        }
        dueKnown("but not what the ring sets", known, 7, ANY, ANY, ANY, 7);
        DeadCode still = ring(row(SET, 0, 0), row(SET, 1, 0), row(GO, 23), row(MOVE, 0, 1), row(MOVE, 1, 2),
                row(MOVE, 2, 3), row(SET, 3, 0), row(GO, 23), row(GO, 3));
        dueKnown("no lap changes anything", still, 8, 0, 0, 0, 0);
        DeadCode read = ring(row(SAY, 0), row(SAY, 0), row(GO, 23), row(SAY, 0), row(MOVE, 0, 1), row(MOVE, 1, 2),
                row(MOVE, 2, 3), row(GO, 23), row(GO, 3));
        for (int place = 9; place <= 23; place++) {
            dueRead("each lap makes one more READ", read, place, 1, 1, 1, 1);
        }
        dueMarks("none is IDLE", read, 1, 1, 1, 1, 1, 1, 1, 1, 1, 1, 1, 1, 1, 1, 1, 1, 1, 1, 1, 1, 1, 1, 1, 1);
    }

    private static void readAtTheEnd() {
        dueRead("behind the last place", code(row(SAY, 0)), 0, 0, 0, 0, 0);
        dueRead("GO to THE END", code(row(GO, 2), row(SAY, 0)), 0, 0, 0, 0, 0);
        dueRead("GO beyond it", code(row(GO, 24), row(SAY, 0)), 0, 0, 0, 0, 0);
        dueRead("IF to THE END", code(row(IF, 0, 1, 24), row(SAY, 3)), 0, 0, 0, 0, 1);
        dueRead("behind GIVE", code(row(GIVE, 0), row(SAY, 0)), 0, 0, 0, 0, 0);
        DeadCode not = code(row(GIVE, 0), row(SAY, 1), row(SAY, 0));
        dueRead("behind a place that is not REACHED", not, 1, 0, 0, 0, 0);
        dueRead("an own reading is not behind", code(row(SAY, 0), row(SAY, 1)), 0, 0, 1, 0, 0);
    }

    private static void readOrSetFirst() {
        dueRead("read ahead of being set", code(row(SAY, 0), row(SAY, 2), row(SET, 2, 1)), 0, 0, 0, 1, 0);
        dueRead("set ahead of being read", code(row(SAY, 0), row(SET, 2, 1), row(SAY, 2)), 0, 0, 0, 0, 0);
        dueRead("read and set by one", code(row(SAY, 0), row(ADD, 2, 2, 3), row(SAY, 2)), 0, 0, 0, 1, 1);
        dueRead("as b alone", code(row(SAY, 0), row(MOVE, 2, 2)), 0, 0, 0, 1, 0);
        dueRead("as c alone", code(row(SAY, 0), row(TIMES, 2, 0, 2)), 0, 1, 0, 1, 0);
        dueRead("as a divisor", code(row(SET, 3, 1), row(DIV, 3, 0, 3)), 0, 1, 0, 0, 1);
        DeadCode one = code(row(IF, 0, 1, 3), row(SET, 2, 1), row(SAY, 2), row(SAY, 2));
        dueRead("set on one way, read on the other", one, 0, 0, 0, 1, 0);
        DeadCode both = code(row(IF, 0, 1, 3), row(SET, 2, 1), row(GO, 4), row(SET, 2, 2), row(SAY, 2));
        dueRead("set on both", both, 0, 0, 0, 0, 0);
        int[][] setting = {row(SET, 2, 1), row(MOVE, 2, 3), row(ADD, 2, 3, 3), row(TIMES, 2, 3, 3), row(LOAD, 2, 3),
            row(CALL, 2, 3)};
        for (int[] setter : setting) {
            DeadCode code = code(row(SAY, 0), setter, row(SAY, 2));
            due("set by kind " + setter[0] + " ahead of being read", code.read(0, 0, 2), 0);
            due("read behind kind " + setter[0], code.read(0, 1, 2), 1);
        }
        DeadCode divides = code(row(SAY, 0), row(DIV, 2, 0, 1), row(SAY, 2));
        dueRead("set by DIV ahead of being read", divides, 0, 1, 1, 0, 0);
        dueRead("STORE reads", code(row(SAY, 0), row(STORE, 2, 3)), 0, 0, 0, 1, 0);
        dueRead("numbers and places read nothing", code(row(SAY, 0), row(SET, 0, 3), row(GO, 3)), 0, 0, 0, 0, 0);
    }

    private static void callReadsThenSets() {
        dueRead("CALL reads 0 and 1", code(row(SAY, 2), row(CALL, 2, 3), row(SAY, 2)), 0, 1, 1, 0, 0);
        for (int a = 0; a < 4; a++) {
            DeadCode code = code(row(SAY, 2), row(CALL, a, 0), row(SAY, a));
            int[] want = {1, 1, 0, 0};
            dueRead("CALL that sets " + a, code, 0, want);
            int[] behind = new int[4];
            behind[a] = 1;
            dueRead("behind CALL that sets " + a, code, 1, behind);
        }
        dueRead("SET, then CALL", code(row(SAY, 2), row(SET, 0, 1), row(CALL, 2, 3)), 0, 0, 1, 0, 0);
    }

    private static void readHoweverTheyGo() {
        DeadCode taken = code(row(SET, 2, -1), row(IF, 2, 3, 3), row(SAY, 0), row(SAY, 1));
        dueRead("an IF that is always taken reads", taken, 0, 0, 1, 1, 1);
        DeadCode never = code(row(SET, 2, 1), row(IF, 2, 3, 3), row(SAY, 0), row(GIVE, 2));
        dueRead("an IF that never is reads", never, 0, 1, 0, 1, 1);
        DeadCode holds = code(row(SET, 2, 1), row(CHECK, 2));
        dueRead("a CHECK that can't fail reads", holds, 0, 0, 0, 1, 0);
        DeadCode fails = code(row(SET, 2, 0), row(CHECK, 2), row(SAY, 0));
        dueRead("a CHECK that always fails reads", fails, 0, 0, 0, 1, 0);
        DeadCode divides = code(row(SET, 2, 0), row(DIV, 3, 0, 2), row(SAY, 1));
        dueRead("a DIV by 0 reads", divides, 0, 1, 0, 1, 0);
        DeadCode idle = code(row(SET, 2, 4), row(MOVE, 3, 2), row(GIVE, 0));
        dueRead("an IDLE one reads", idle, 0, 1, 0, 1, 0);
    }

    private static void readOnWaysThatGoOn() {
        DeadCode taken = code(row(SET, 2, -1), row(IF, 2, 3, 3), row(SAY, 0), row(SAY, 1));
        dueRead("only where the IF goes", taken, 1, 0, 1, 0, 0);
        dueRead("what it jumps over is not REACHED", taken, 2, 0, 0, 0, 0);
        DeadCode never = code(row(IF, 2, 3, 3), row(SAY, 0), row(GIVE, 0), row(SAY, 1));
        dueRead("only what comes next", never, 0, 1, 0, 0, 0);
        dueRead("no way goes on: CHECK of 0", code(row(CHECK, 2), row(SAY, 0)), 0, 0, 0, 0, 0);
        dueRead("no way goes on: DIV by 0", code(row(DIV, 3, 0, 2), row(SAY, 0)), 0, 0, 0, 0, 0);
        dueRead("CHECK of ANY", code(row(CHECK, 0), row(SAY, 0)), 0, 1, 0, 0, 0);
        dueRead("DIV by ANY", code(row(DIV, 3, 0, 1), row(SAY, 0)), 0, 1, 0, 0, 0);
    }

    private static void readInLoops() {
        DeadCode loop = code(row(SAY, 2), row(SET, 3, 1), row(ADD, 2, 2, 3), row(GO, 0));
        dueRead("the way back reads", loop, 0, 0, 0, 1, 0);
        dueRead("the way back reads", loop, 2, 0, 0, 1, 0);
        dueRead("the way back sets 3 first", loop, 3, 0, 0, 1, 0);
        DeadCode around = code(row(SAY, 0), row(SAY, 1), row(GO, 0));
        for (int place = 0; place < 3; place++) {
            dueRead("all that a loop reads is read behind each of it", around, place, 1, 1, 0, 0);
        }
        dueRead("GO to itself", code(row(GO, 0), row(SAY, 0)), 0, 0, 0, 0, 0);
        dueRead("IF to itself", code(row(IF, 0, 1, 0)), 0, 1, 1, 0, 0);
        dueRead("SET in a loop that none leaves", code(row(SET, 2, 1), row(GO, 0)), 0, 0, 0, 0, 0);
        dueMarks("it is IDLE", code(row(SET, 2, 1), row(GO, 0)), 9, 1);
        dueMarks("ADD to itself in a loop is read by itself", code(row(ADD, 2, 2, 0), row(GO, 0)), 1, 1);
        DeadCode two = add(code(row(GO, 0)), 1, row(SAY, 0), row(SAY, 2));
        due("read in another member", two.read(1, 0, 2), 1);
        dueRead("that tells nothing of this one", two, 0, 0, 0, 0, 0);
    }

    private static void marksOfIf() {
        int[][] pairs = {{1, 2, 3}, {2, 1, 5}, {2, 2, 5}, {MIN, MAX, 3}, {MAX, MIN, 5}, {-1, 0, 3}, {0, -1, 5}};
        for (int[] one : pairs) {
            DeadCode code = code(row(SET, 2, one[0]), row(SET, 3, one[1]), row(IF, 2, 3, 3), row(SAY, 0));
            dueMarks("IF of " + one[0] + " " + one[1], code, 1, 1, one[2], 1);
        }
        dueMarks("IF of a CONSTANT and itself", code(row(IF, 2, 2, 0), row(SAY, 0)), 5, 1);
        dueMarks("IF of ANY and itself", code(row(IF, 0, 0, 0), row(SAY, 0)), 1, 1);
        dueMarks("IF of ANY and MIN", code(row(SET, 2, MIN), row(IF, 0, 2, 2), row(SAY, 0)), 1, 1, 1);
        dueMarks("IF of MAX and ANY", code(row(SET, 2, MAX), row(IF, 2, 0, 2), row(SAY, 0)), 1, 1, 1);
        dueMarks("an IF that is not REACHED", code(row(GIVE, 0), row(IF, 2, 3, 0)), 1, 0);
    }

    private static void marksOfIdle() {
        int[][] idle = {row(SET, 2, 1), row(MOVE, 2, 0), row(ADD, 2, 0, 1), row(TIMES, 2, 0, 1), row(LOAD, 2, 0)};
        for (int[] one : idle) {
            dueMarks("none reads it", code(one, row(SAY, 3)), 9, 1);
            dueMarks("it is the last", code(one), 9);
            dueMarks("one reads it", code(one, row(SAY, 2)), 1, 1);
            dueMarks("it is set again", code(one, row(SET, 2, 5), row(SAY, 2)), 9, 1, 1);
            dueMarks("another is read", code(one, row(SAY, 0)), 9, 1);
            dueMarks("a GIVE stands between", code(one, row(GIVE, 3), row(SAY, 2)), 9, 1, 0);
            dueMarks("it is not REACHED", code(row(GIVE, 3), one), 1, 0);
            dueMarks("one way reads it", code(one, row(IF, 0, 1, 3), row(GIVE, 0), row(SAY, 2)), 1, 1, 1, 1);
        }
        dueMarks("MOVE to itself", code(row(MOVE, 0, 0), row(SAY, 0)), 1, 1);
        dueMarks("MOVE to itself that none reads", code(row(MOVE, 0, 0)), 9);
        dueMarks("only an IDLE one reads it", code(row(SET, 2, 1), row(MOVE, 3, 2)), 1, 9);
    }

    private static void marksOfDiv() {
        for (int n : new int[] {MIN, -1, 1, MAX}) {
            dueMarks("DIV by " + n, code(row(SET, 2, n), row(DIV, 3, 0, 2), row(SAY, 0)), 1, 9, 1);
            dueMarks("DIV that is read", code(row(SET, 2, n), row(DIV, 3, 0, 2), row(SAY, 3)), 1, 1, 1);
        }
        dueMarks("DIV by 0", code(row(DIV, 3, 0, 2), row(SAY, 0)), 1, 0);
        dueMarks("DIV by ANY", code(row(DIV, 3, 0, 1), row(SAY, 0)), 1, 1);
        dueMarks("DIV of a CONSTANT by ANY", code(row(DIV, 3, 2, 1), row(SAY, 0)), 1, 1);
        dueMarks("DIV of MIN by -1", code(row(SET, 0, MIN), row(SET, 1, -1), row(DIV, 3, 0, 1), row(SAY, 2)),
                1, 1, 9, 1);
    }

    private static void marksOfCheck() {
        for (int n : new int[] {MIN, -1, 1, MAX}) {
            dueMarks("CHECK of " + n, code(row(SET, 2, n), row(CHECK, 2), row(SAY, 0)), 1, 17, 1);
        }
        dueMarks("CHECK of 0", code(row(CHECK, 2), row(SAY, 0)), 1, 0);
        dueMarks("CHECK of ANY", code(row(CHECK, 0), row(SAY, 0)), 1, 1);
        dueMarks("CHECK of ANY twice", code(row(CHECK, 0), row(CHECK, 0)), 1, 1);
        dueMarks("a CHECK that is not REACHED", code(row(SET, 2, 1), row(GIVE, 0), row(CHECK, 2)), 9, 1, 0);
    }

    private static void noOtherIsIdle() {
        dueMarks("CALL", code(row(CALL, 2, 7)), 1);
        dueMarks("STORE", code(row(STORE, 0, 0)), 1);
        dueMarks("SAY", code(row(SAY, 0)), 1);
        dueMarks("GIVE", code(row(GIVE, 0)), 1);
        dueMarks("GO to the next place", code(row(GO, 1)), 1);
        dueMarks("IF to the next place", code(row(IF, 0, 1, 1)), 1);
    }

    private static void dueUsed(String what, DeadCode code, int... want) {
        for (int m = 0; m < 8; m++) {
            due(what + ": used " + m, code.used(m), want[m]);
        }
    }

    private static void usedByNone() {
        DeadCode code = addTimes(new DeadCode(), 0, 24, row(CALL, 2, 7));
        add(code, 7, row(CALL, 2, 0));
        dueUsed("calls without a ROOT", code, 0, 0, 0, 0, 0, 0, 0, 0);
        for (int m = 0; m < 8; m++) {
            DeadCode alone = new DeadCode();
            alone.root(m, true);
            int[] want = new int[8];
            want[m] = 1;
            dueUsed("an empty ROOT", alone, want);
            alone.root(m, false);
            dueUsed("no ROOT any more", alone, 0, 0, 0, 0, 0, 0, 0, 0);
        }
        DeadCode all = new DeadCode();
        for (int m = 0; m < 8; m++) {
            all.root(m, true);
        }
        dueUsed("all are ROOTS", all, 1, 1, 1, 1, 1, 1, 1, 1);
    }

    private static void usedThroughOthers() {
        DeadCode up = new DeadCode();
        DeadCode down = new DeadCode();
        for (int m = 0; m < 7; m++) {
            add(up, m, row(CALL, 2, m + 1));
            add(down, m + 1, row(CALL, 2, m));
        }
        up.root(0, true);
        dueUsed("a chain upwards", up, 1, 1, 1, 1, 1, 1, 1, 1);
        down.root(7, true);
        dueUsed("a chain downwards", down, 1, 1, 1, 1, 1, 1, 1, 1);
        up.cut(3);
        dueUsed("a chain that is cut", up, 1, 1, 1, 1, 0, 0, 0, 0);
        up.root(7, true);
        dueUsed("its last is a ROOT", up, 1, 1, 1, 1, 0, 0, 0, 1);
        DeadCode circle = code(row(CALL, 2, 4));
        add(circle, 4, row(CALL, 2, 0));
        dueUsed("a circle without a ROOT", circle, 0, 0, 0, 0, 0, 0, 0, 0);
        circle.root(4, true);
        dueUsed("a circle with one", circle, 1, 0, 0, 0, 1, 0, 0, 0);
        circle.root(4, false);
        circle.root(0, true);
        dueUsed("a circle with another", circle, 1, 0, 0, 0, 1, 0, 0, 0);
        DeadCode self = add(new DeadCode(), 5, row(CALL, 2, 5));
        dueUsed("one that calls itself", self, 0, 0, 0, 0, 0, 0, 0, 0);
    }

    private static void usedWhereReached() {
        DeadCode code = code(row(IF, 2, 3, 3), row(CALL, 0, 1), row(GIVE, 0), row(CALL, 0, 2));
        code.root(0, true);
        dueUsed("calls that are REACHED", code, 1, 1, 0, 0, 0, 0, 0, 0);
        DeadCode last = addTimes(new DeadCode(), 0, 23, row(SAY, 0));
        add(last, 0, row(CALL, 0, 7));
        last.root(0, true);
        dueUsed("a CALL at place 23", last, 1, 0, 0, 0, 0, 0, 0, 1);
        DeadCode fails = code(row(CHECK, 2), row(CALL, 0, 7));
        fails.root(0, true);
        dueUsed("behind a CHECK of 0", fails, 1, 0, 0, 0, 0, 0, 0, 0);
        DeadCode within = code(row(CALL, 0, 1), row(CALL, 0, 2));
        add(within, 1, row(CHECK, 2));
        within.root(0, true);
        dueUsed("what a callee does is not known", within, 1, 1, 1, 0, 0, 0, 0, 0);
        DeadCode numbers = code(row(SET, 0, 5), row(LOAD, 0, 3), row(STORE, 0, 2), row(MOVE, 0, 1), row(GO, 6));
        numbers.root(0, true);
        dueUsed("only CALL calls", numbers, 1, 0, 0, 0, 0, 0, 0, 0);
    }

    private static void dueField(String what, DeadCode code, int... want) {
        for (int f = 0; f < 4; f++) {
            due(what + ": field " + f, code.field(f), want[f]);
        }
    }

    private static void fieldBits() {
        for (int f = 0; f < 4; f++) {
            DeadCode code = code(row(LOAD, 2, f));
            int[] want = new int[4];
            dueField("without a ROOT", code, want);
            code.root(0, true);
            want[f] = 1;
            dueField("READ", code, want);
            add(code, 0, row(STORE, 2, f));
            want[f] = 3;
            dueField("READ and WRITTEN", code, want);
            code.cut(0);
            add(code, 0, row(STORE, 2, f));
            want[f] = 2;
            dueField("WRITTEN", code, want);
            add(code, 0, row(STORE, 2, f), row(STORE, 3, f));
            dueField("WRITTEN more than once", code, want);
        }
        DeadCode idle = code(row(LOAD, 2, 1));
        idle.root(0, true);
        dueMarks("an IDLE LOAD", idle, 9);
        dueField("an IDLE LOAD reads", idle, 0, 1, 0, 0);
    }

    private static void fieldsOfUsedOnly() {
        DeadCode code = code(row(CALL, 2, 7), row(LOAD, 2, 0), row(GIVE, 2), row(STORE, 2, 0), row(LOAD, 2, 1));
        add(code, 7, row(STORE, 0, 3));
        add(code, 6, row(LOAD, 2, 2), row(STORE, 2, 2));
        code.root(0, true);
        dueField("REACHED, and of USED members", code, 1, 0, 0, 2);
        code.root(6, true);
        dueField("6 is USED, too", code, 1, 0, 3, 2);
        code.root(0, false);
        dueField("only 6 is", code, 0, 0, 3, 0);
        code.cut(6);
        dueField("6 is empty", code, 0, 0, 0, 0);
        DeadCode eight = new DeadCode();
        for (int m = 0; m < 8; m++) {
            add(eight, m, row(m % 2 == 0 ? LOAD : STORE, 2, m / 2), row(CALL, 2, m < 7 ? m + 1 : 0));
        }
        for (int m = 0; m < 8; m++) {
            eight.root(m, true);
            dueField("all 8 in a ring from " + m, eight, 3, 3, 3, 3);
            eight.root(m, false);
        }
        dueField("a ring without a ROOT", eight, 0, 0, 0, 0);
    }

    private static void doubledByCount() {
        DeadCode code = new DeadCode();
        for (int m = 0; m < 8; m++) {
            due("empty ones are DOUBLED", code.doubled(m), 0);
        }
        addTimes(code, 3, 24, row(SAY, 2));
        addTimes(code, 5, 23, row(SAY, 3));
        due("23 and 24", code.doubled(5), 5);
        add(code, 5, row(SAY, 3));
        due("24 and 24", code.doubled(5), 3);
        due("the first of them", code.doubled(3), 3);
        due("an empty one", code.doubled(7), 0);
        addTimes(code, 6, 23, row(SAY, 2));
        add(code, 6, row(SAY, 0));
        due("another one at place 23", code.doubled(6), 6);
        addTimes(code, 7, 23, row(SAY, 2));
        add(code, 7, row(SAY, 3));
        due("the other register at place 23", code.doubled(7), 7);
        code.cut(3);
        due("none is left that it doubles", code.doubled(5), 5);
        due("an empty one again", code.doubled(3), 0);
    }

    /** What is DOUBLED of one instruction each, in members 0 and 1: 0 if they are alike. */
    private static void pair(String what, int[] one, int[] other, int want) {
        due("doubled: " + what, add(code(one), 1, other).doubled(1), want);
        due("doubled, the other way: " + what, add(code(other), 1, one).doubled(1), want);
    }

    private static void doubledByParts() {
        for (int kind = 0; kind < 13; kind++) {
            for (int part = 0; part < HAS[kind].length(); part++) {
                int[] one = row(kind, 0, 0, 0);
                int[] other = row(kind, 0, 0, 0);
                other[1 + part] = 1;
                pair("kind " + kind + ", part " + part, one, other, 1);
            }
            int[] bare = {kind, 0, 0, 0};
            int[] more = {kind, 0, 0, 0};
            for (int part = HAS[kind].length(); part < 3; part++) {
                more[1 + part] = MAX;
            }
            pair("kind " + kind + ", what it has not", bare, more, 0);
        }
        pair("kinds", row(GIVE, 0), row(SAY, 0), 1);
        pair("ADD and TIMES", row(ADD, 0, 0, 0), row(TIMES, 0, 0, 0), 1);
        pair("n MIN and MAX", row(SET, 0, MIN), row(SET, 0, MAX), 1);
        pair("n 2 and 3", row(SET, 2, 2), row(SET, 3, 3), 1);
        pair("places 2 and 3 of GO", row(GO, 2), row(GO, 3), 1);
        pair("places of GO, both THE END", row(GO, 23), row(GO, 24), 1);
        pair("places 2 and 3 of IF", row(IF, 2, 0, 2), row(IF, 3, 0, 3), 1);
        pair("places of IF alike", row(IF, 2, 0, 2), row(IF, 3, 0, 2), 0);
        pair("FIELDS 2 and 3", row(LOAD, 2, 2), row(LOAD, 3, 3), 1);
        pair("FIELDS alike", row(STORE, 2, 3), row(STORE, 3, 3), 0);
        pair("MEMBERS 2 and 3", row(CALL, 2, 2), row(CALL, 3, 3), 1);
        pair("MEMBERS alike", row(CALL, 2, 3), row(CALL, 3, 3), 0);
        pair("each calls itself", row(CALL, 2, 0), row(CALL, 2, 1), 1);
        pair("registers 1 and 2", row(SAY, 1), row(SAY, 2), 1);
        pair("registers 0 and 3", row(SAY, 0), row(SAY, 3), 1);
    }

    private static void doubledByNames() {
        for (int kind = 0; kind < 13; kind++) {
            for (int part = 0; part < HAS[kind].length(); part++) {
                int[] one = row(kind, 0, 0, 0);
                int[] other = row(kind, 0, 0, 0);
                one[1 + part] = 2;
                other[1 + part] = 3;
                boolean register = HAS[kind].charAt(part) == 'r';
                pair("2 and 3 as part " + part + " of kind " + kind, one, other, register ? 0 : 1);
            }
        }
        pair("2 and 3 exchanged", row(ADD, 2, 3, 3), row(ADD, 3, 2, 2), 0);
        pair("one that is first, one that is not", row(ADD, 2, 3, 3), row(ADD, 3, 2, 3), 1);
        pair("only one, twice", row(MOVE, 2, 2), row(MOVE, 3, 3), 0);
        pair("one twice, and two", row(MOVE, 2, 2), row(MOVE, 2, 3), 1);
        pair("first as b", row(ADD, 0, 2, 3), row(ADD, 0, 3, 2), 0);
        pair("first as c", row(DIV, 0, 1, 2), row(DIV, 0, 1, 3), 0);
        pair("a ahead of b", row(IF, 2, 3, 0), row(IF, 3, 2, 0), 0);
        DeadCode late = addTimes(new DeadCode(), 0, 22, row(SET, 0, 3));
        add(late, 0, row(SAY, 2), row(SAY, 3));
        addTimes(late, 1, 22, row(SET, 0, 3));
        add(late, 1, row(SAY, 3), row(SAY, 2));
        addTimes(late, 2, 22, row(SET, 0, 3));
        add(late, 2, row(SAY, 3), row(SAY, 3));
        due("named first at place 22", late.doubled(1), 0);
        due("but not as the same one", late.doubled(2), 2);
        DeadCode dead = code(row(GIVE, 0), row(SAY, 2), row(SAY, 3));
        add(dead, 1, row(GIVE, 0), row(SAY, 3), row(SAY, 2));
        add(dead, 2, row(GIVE, 0), row(SAY, 3), row(SAY, 3));
        due("names that are not REACHED count", dead.doubled(1), 0);
        due("as do the registers there", dead.doubled(2), 2);
    }

    private static void doubledIsTheLeast() {
        DeadCode code = new DeadCode();
        for (int m = 0; m < 8; m++) {
            add(code, m, row(SAY, m < 4 ? m % 2 : 2 + m % 2));
        }
        int[] want = {0, 1, 0, 1, 4, 4, 4, 4};
        for (int m = 0; m < 8; m++) {
            due("the least of " + m, code.doubled(m), want[m]);
        }
        code.cut(0);
        due("2 is the least now", code.doubled(2), 2);
        due("0 is empty alone", code.doubled(0), 0);
        code.cut(7);
        due("7 is empty, too", code.doubled(7), 0);
    }
}
