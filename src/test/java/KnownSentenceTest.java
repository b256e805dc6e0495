/** Part 2 of Terms, sentence by sentence: WHAT IS KNOWN, READ, MARKS, USED, FIELDS, DOUBLED. */
public final class KnownSentenceTest extends Sentences {
    public static void main(String[] args) {
        play("at THE BEGIN 0, 1 are ANY, 2, 3 are 0", 0, KnownSentenceTest::theBegin);
        play("THE BEGIN, if it is not THE END", 0, KnownSentenceTest::beginIsEnd);
        play("known by the MEMBER alone", 0, KnownSentenceTest::byItAlone);
        play("what all ways bring, if it is the same", 0, KnownSentenceTest::allWays);
        play("ways back to THE BEGIN", 0, KnownSentenceTest::waysBack);
        play("SET, MOVE, ADD, TIMES, DIV of CONSTANTS", 0, KnownSentenceTest::ofConstants);
        play("they wrap there, too", 0, KnownSentenceTest::theyWrap);
        play("else ANY", 0, KnownSentenceTest::elseAny);
        play("DIV by the CONSTANT 0: no way goes on", 0, KnownSentenceTest::divisionByNothing);
        play("LOAD, CALL bring ANY", 0, KnownSentenceTest::loadAndCall);
        play("STORE, SAY, CHECK bring what was", 0, KnownSentenceTest::bringWhatWas);
        play("IF of two CONSTANTS goes its one way", 0, KnownSentenceTest::oneWay);
        play("IF else goes both", 0, KnownSentenceTest::bothWays);
        play("CHECK of the CONSTANT 0, GIVE: no way goes on", 0, KnownSentenceTest::noWay);
        play("GO goes its way alone", 0, KnownSentenceTest::goesThere);
        play("the most that can be known", 0, KnownSentenceTest::theMost);
        play("till nothing changes", 0, KnownSentenceTest::tillNothingChanges);
        play("READ ahead of being set", 0, KnownSentenceTest::readAheadOfSet);
        play("READ by each KIND that reads", 0, KnownSentenceTest::readByEach);
        play("set by each KIND that sets", 0, KnownSentenceTest::setByEach);
        play("READ on some way on", 0, KnownSentenceTest::readOnSomeWay);
        play("READ on ways that come again", 0, KnownSentenceTest::readInLoops);
        play("READ behind the place, not at it", 0, KnownSentenceTest::readBehindIt);
        play("CALL reads 0 and 1, then sets a", 0, KnownSentenceTest::callReads);
        play("IF, CHECK read, however they go", 0, KnownSentenceTest::howeverTheyGo);
        play("at THE END none is READ", 0, KnownSentenceTest::noneAtTheEnd);
        play("MARK 1 it is REACHED", 0, KnownSentenceTest::markReached);
        play("MARK 2 always taken, 4 never", 0, KnownSentenceTest::marksOfIf);
        play("MARK 8 of SET, MOVE, ADD, TIMES, LOAD", 0, KnownSentenceTest::markIdle);
        play("MARK 8 of DIV by a CONSTANT that is not 0", 0, KnownSentenceTest::markIdleDivision);
        play("no MARK 8 of another KIND", 0, KnownSentenceTest::neverIdle);
        play("MARK 16 CHECK of a CONSTANT that is not 0", 0, KnownSentenceTest::markCheck);
        play("MARKS of a place that is not REACHED", 0, KnownSentenceTest::marksOfNone);
        play("USED are ROOTS; none at first", 0, KnownSentenceTest::usedAreRoots);
        play("USED are those that USED ones call", SPARE, KnownSentenceTest::usedAreCalled);
        play("USED, one through another, all of them", SPARE, KnownSentenceTest::usedAllThrough);
        play("called at a REACHED place", 0, KnownSentenceTest::calledWhereReached);
        play("of a FIELD: 1 READ, 2 WRITTEN", 0, KnownSentenceTest::ofFields);
        play("of a FIELD: at a REACHED place of a USED member", 0, KnownSentenceTest::fieldsOfUsed);
        play("DOUBLED: as many INSTRUCTIONS", 0, KnownSentenceTest::doubledCount);
        play("DOUBLED: of the same KINDS, places, numbers, FIELDS, MEMBERS", 0, KnownSentenceTest::doubledParts);
        play("DOUBLED: the same registers, 2 and 3 renamed", 0, KnownSentenceTest::doubledRegisters);
        play("DOUBLED: named first in the order a, b, c", 0, KnownSentenceTest::doubledOrder);
        checks.end("KnownSentenceTest");
    }

    private static void theBegin(Desk desk) {
        for (int m : new int[] {0, 3, 7}) {
            desk.add(m, row(SAY, 0));
            desk.dueKnown(m, 0, ANY, ANY, 0, 0);
            desk.add(m, row(SET, 0, 1), row(SET, 2, 1));
            desk.dueKnown(m, 0, ANY, ANY, 0, 0);
            desk.due("it is REACHED", desk.marks(m, 0), 1);
        }
    }

    private static void beginIsEnd(Desk desk) {
        for (int m = 0; m < 8; m++) {
            desk.due("known of " + m, desk.known(m, 0, 2), UNKNOWN);
            desk.due("marks of " + m, desk.marks(m, 0), UNKNOWN);
        }
        desk.add(5, row(SAY, 0));
        desk.due("known of one that has it", desk.known(5, 0, 2), 0);
        desk.cut(5);
        desk.due("known of one that had it", desk.known(5, 0, 2), UNKNOWN);
    }

    private static void byItAlone(Desk desk) {
        desk.add(0, row(SET, 0, 5), row(SET, 1, 6), row(STORE, 0, 1), row(CALL, 2, 1), row(SAY, 2));
        desk.add(1, row(LOAD, 2, 1), row(SAY, 2), row(GIVE, 3));
        desk.root(0, true);
        desk.dueKnown(1, 0, ANY, ANY, 0, 0);
        desk.dueKnown(1, 1, ANY, ANY, ANY, 0);
        desk.dueKnown(0, 4, 5, 6, ANY, 0);
        desk.cut(0);
        desk.dueKnown(1, 1, ANY, ANY, ANY, 0);
    }

    private static void allWays(Desk desk) {
        desk.add(0, row(IF, 0, 1, 4), row(SET, 2, 7), row(SET, 3, 8), row(GO, 6), row(SET, 2, 7), row(SET, 3, 9),
                row(SAY, 0));
        desk.dueKnown(0, 6, ANY, ANY, 7, ANY);
        desk.add(1, row(IF, 0, 1, 3), row(SET, 0, 7), row(GO, 4), row(SET, 0, 7), row(SAY, 0));
        desk.dueKnown(1, 4, 7, ANY, 0, 0);
        desk.add(2, row(IF, 0, 1, 3), row(SET, 2, 7), row(GO, 4), row(MOVE, 2, 1), row(SAY, 0));
        desk.dueKnown(2, 4, ANY, ANY, ANY, 0);
        desk.add(3, row(IF, 0, 1, 5), row(IF, 1, 0, 4), row(SET, 2, 1), row(GO, 5), row(SET, 2, 0), row(SAY, 0));
        desk.dueKnown(3, 5, ANY, ANY, ANY, 0);
    }

    private static void waysBack(Desk desk) {
        desk.add(0, row(SAY, 0), row(SET, 0, 3), row(SET, 2, 1), row(SET, 3, 0), row(GO, 0));
        desk.dueKnown(0, 0, ANY, ANY, ANY, 0);
        desk.dueKnown(0, 2, 3, ANY, ANY, 0);
        desk.add(1, row(GO, 0));
        desk.dueKnown(1, 0, ANY, ANY, 0, 0);
        desk.add(2, row(IF, 0, 1, 0), row(SET, 2, 1), row(IF, 1, 0, 1));
        desk.dueKnown(2, 0, ANY, ANY, 0, 0);
        desk.dueKnown(2, 1, ANY, ANY, ANY, 0);
        desk.dueKnown(2, 2, ANY, ANY, 1, 0);
    }

    private static void ofConstants(Desk desk) {
        desk.add(0, row(SET, 0, 17), row(SET, 1, -5), row(MOVE, 2, 0), row(ADD, 2, 2, 1), row(TIMES, 3, 0, 1),
                row(DIV, 3, 3, 2), row(DIV, 0, 1, 0), row(SAY, 0));
        long[][] want = {{ANY, ANY, 0, 0}, {17, ANY, 0, 0}, {17, -5, 0, 0}, {17, -5, 17, 0}, {17, -5, 12, 0},
            {17, -5, 12, -85}, {17, -5, 12, -7}, {0, -5, 12, -7}};
        for (int place = 0; place < want.length; place++) {
            desk.dueKnown(0, place, want[place]);
        }
    }

    private static void theyWrap(Desk desk) {
        desk.add(0, row(SET, 0, MAX), row(SET, 1, MIN), row(SET, 2, -1), row(DIV, 3, 1, 2), row(ADD, 2, 0, 0),
                row(TIMES, 0, 0, 1), row(ADD, 1, 1, 1), row(SAY, 0));
        desk.dueKnown(0, 4, MAX, MIN, -1, MIN);
        desk.dueKnown(0, 5, MAX, MIN, -2, MIN);
        desk.dueKnown(0, 6, MIN, MIN, -2, MIN);
        desk.dueKnown(0, 7, MIN, 0, -2, MIN);
    }

    private static void elseAny(Desk desk) {
        for (int kind : new int[] {ADD, TIMES, DIV}) {
            desk.renew(0, row(SET, 2, 1), row(kind, 3, 0, 2), row(SAY, 0));
            desk.dueKnown(0, 2, ANY, ANY, 1, ANY);
            desk.renew(0, row(SET, 2, 1), row(kind, 3, 2, 0), row(SAY, 0));
            desk.dueKnown(0, 2, ANY, ANY, 1, ANY);
            desk.renew(0, row(SET, 2, 1), row(kind, 2, 0, 1), row(SAY, 0));
            desk.dueKnown(0, 2, ANY, ANY, ANY, 0);
        }
        desk.renew(0, row(TIMES, 1, 0, 2), row(MOVE, 2, 0), row(SAY, 0));
        desk.dueKnown(0, 2, ANY, ANY, ANY, 0);
    }

    private static void divisionByNothing(Desk desk) {
        desk.add(0, row(DIV, 0, 0, 2), row(SAY, 0));
        desk.dueKnown(0, 0, ANY, ANY, 0, 0);
        desk.dueKnown(0, 1, LOST, LOST, LOST, LOST);
        desk.add(1, row(SET, 2, 6), row(DIV, 2, 2, 3), row(SAY, 0));
        desk.dueKnown(1, 2, LOST, LOST, LOST, LOST);
        desk.add(2, row(SET, 3, -1), row(DIV, 2, 0, 3), row(SAY, 0));
        desk.dueKnown(2, 2, ANY, ANY, ANY, -1);
        desk.add(3, row(DIV, 2, 3, 0), row(SAY, 0));
        desk.dueKnown(3, 1, ANY, ANY, ANY, 0);
    }

    private static void loadAndCall(Desk desk) {
        desk.add(0, row(SET, 2, 4), row(STORE, 2, 3), row(LOAD, 2, 3), row(CALL, 3, 1), row(CALL, 0, 0), row(SAY, 0));
        desk.add(1, row(SET, 2, 4), row(GIVE, 2));
        desk.dueKnown(0, 3, ANY, ANY, ANY, 0);
        desk.dueKnown(0, 4, ANY, ANY, ANY, ANY);
        desk.add(2, row(SET, 0, 1), row(SET, 1, 2), row(CALL, 1, 1), row(LOAD, 0, 0), row(SAY, 0));
        desk.dueKnown(2, 3, 1, ANY, 0, 0);
        desk.dueKnown(2, 4, ANY, ANY, 0, 0);
    }

    private static void bringWhatWas(Desk desk) {
        desk.add(0, row(SET, 2, 4), row(SET, 0, 9), row(STORE, 2, 0), row(SAY, 2), row(CHECK, 2), row(CHECK, 1),
                row(SAY, 1));
        for (int place = 2; place < 7; place++) {
            desk.dueKnown(0, place, 9, ANY, 4, 0);
        }
    }

    private static void oneWay(Desk desk) {
        int[][] below = {{-1, 0}, {MIN, MAX}, {4, 5}};
        for (int[] two : below) {
            desk.renew(0, row(SET, 2, two[0]), row(SET, 3, two[1]), row(IF, 2, 3, 4), row(SAY, 0), row(SAY, 1));
            desk.dueKnown(0, 3, LOST, LOST, LOST, LOST);
            desk.dueKnown(0, 4, ANY, ANY, two[0], two[1]);
        }
        int[][] notBelow = {{0, -1}, {5, 5}, {MAX, MIN}};
        for (int[] two : notBelow) {
            desk.renew(0, row(SET, 2, two[0]), row(SET, 3, two[1]), row(IF, 2, 3, 5), row(SAY, 0), row(GIVE, 0),
                    row(SAY, 1));
            desk.dueKnown(0, 3, ANY, ANY, two[0], two[1]);
            desk.dueKnown(0, 5, LOST, LOST, LOST, LOST);
        }
    }

    private static void bothWays(Desk desk) {
        int[][] either = {{0, 2}, {2, 0}, {0, 1}, {1, 1}};
        for (int[] two : either) {
            desk.renew(0, row(IF, two[0], two[1], 3), row(SET, 3, 2), row(GIVE, 0), row(SAY, 1));
            desk.dueKnown(0, 1, ANY, ANY, 0, 0);
            desk.dueKnown(0, 2, ANY, ANY, 0, 2);
            desk.dueKnown(0, 3, ANY, ANY, 0, 0);
        }
    }

    private static void noWay(Desk desk) {
        desk.add(0, row(CHECK, 3), row(SAY, 0));
        desk.dueKnown(0, 1, LOST, LOST, LOST, LOST);
        desk.add(1, row(GIVE, 0), row(SAY, 0));
        desk.dueKnown(1, 1, LOST, LOST, LOST, LOST);
        desk.add(2, row(CHECK, 0), row(SAY, 0));
        desk.dueKnown(2, 1, ANY, ANY, 0, 0);
        for (int n : new int[] {MIN, -1, 1, MAX}) {
            desk.renew(3, row(SET, 3, n), row(CHECK, 3), row(SAY, 0));
            desk.dueKnown(3, 2, ANY, ANY, 0, n);
        }
    }

    private static void goesThere(Desk desk) {
        desk.add(0, row(SET, 2, 1), row(GO, 4), row(SET, 2, 2), row(GIVE, 2), row(SAY, 2), row(GO, 3));
        desk.dueKnown(0, 2, LOST, LOST, LOST, LOST);
        desk.dueKnown(0, 3, ANY, ANY, 1, 0);
        desk.dueKnown(0, 5, ANY, ANY, 1, 0);
        desk.add(1, row(GO, 24), row(SAY, 0));
        desk.dueKnown(1, 1, LOST, LOST, LOST, LOST);
    }

    private static void theMost(Desk desk) {
        desk.add(0, row(IF, 2, 3, 3), row(IF, 0, 1, 0), row(GIVE, 2), row(SET, 3, 1), row(SET, 2, 1), row(GO, 0));
        desk.dueKnown(0, 0, ANY, ANY, 0, 0);
        desk.dueMarks(0, 5, 1, 1, 0, 0, 0);
        desk.add(1, row(SET, 2, 5), row(MOVE, 2, 2), row(DIV, 3, 2, 2), row(IF, 0, 1, 1), row(SAY, 3));
        desk.dueKnown(1, 1, ANY, ANY, 5, ANY);
        desk.dueKnown(1, 4, ANY, ANY, 5, 1);
    }

    private static void tillNothingChanges(Desk desk) {
        desk.add(0, row(IF, 2, 3, 5), row(SET, 3, 1), row(GO, 0), row(SAY, 0), row(SAY, 0), row(SET, 2, 1), row(GO, 0));
        desk.dueKnown(0, 0, ANY, ANY, ANY, ANY);
        desk.dueMarks(0, 1, 1, 1, 0, 0, 1, 1);
        desk.add(1, row(SAY, 2), row(MOVE, 2, 3), row(MOVE, 3, 1), row(IF, 0, 1, 0), row(SAY, 3));
        desk.dueKnown(1, 0, ANY, ANY, ANY, ANY);
        desk.add(2, row(DIV, 2, 0, 3), row(SAY, 0));
        desk.dueKnown(2, 1, LOST, LOST, LOST, LOST);
        desk.renew(2, row(IF, 0, 1, 3), row(SET, 3, 1), row(IF, 0, 1, 0), row(DIV, 2, 0, 3), row(SAY, 0));
        desk.dueKnown(2, 4, ANY, ANY, ANY, ANY);
    }

    private static void readAheadOfSet(Desk desk) {
        desk.add(0, row(SAY, 0), row(ADD, 2, 2, 1), row(SET, 1, 3), row(MOVE, 3, 1), row(GIVE, 3));
        desk.dueRead(0, 0, 0, 1, 1, 0);
        desk.dueRead(0, 1, 0, 0, 0, 0);
        desk.dueRead(0, 2, 0, 1, 0, 0);
        desk.dueRead(0, 3, 0, 0, 0, 1);
        desk.dueRead(0, 4, 0, 0, 0, 0);
    }

    private static void readByEach(Desk desk) {
        int[][] rows = {row(MOVE, 0, 2), row(ADD, 0, 2, 1), row(ADD, 0, 1, 2), row(TIMES, 0, 2, 1), row(TIMES, 0, 1, 2),
            row(DIV, 0, 2, 1), row(DIV, 0, 1, 2), row(IF, 2, 0, 24), row(IF, 0, 2, 24), row(STORE, 2, 3),
            row(GIVE, 2), row(CHECK, 2), row(SAY, 2), row(ADD, 2, 2, 2)};
        for (int[] one : rows) {
            desk.renew(0, row(STORE, 0, 0), one);
            desk.due("READ by kind " + one[0], desk.read(0, 0, 2), 1);
            desk.due("3 is not READ by kind " + one[0], desk.read(0, 0, 3), 0);
        }
        for (int[] one : new int[][] {row(SET, 0, 2), row(GO, 2), row(LOAD, 0, 2), row(CALL, 0, 2)}) {
            desk.renew(0, row(STORE, 0, 0), one);
            desk.due("not READ by kind " + one[0], desk.read(0, 0, 2), 0);
        }
    }

    private static void setByEach(Desk desk) {
        int[][] sets = {row(SET, 2, 3), row(MOVE, 2, 3), row(ADD, 2, 3, 3), row(TIMES, 2, 3, 3), row(DIV, 2, 3, 0),
            row(LOAD, 2, 3), row(CALL, 2, 3)};
        for (int[] one : sets) {
            desk.renew(0, row(STORE, 0, 0), one, row(SAY, 2));
            desk.due("set by kind " + one[0], desk.read(0, 0, 2), 0);
            desk.due("READ behind kind " + one[0], desk.read(0, 1, 2), 1);
        }
        for (int[] one : new int[][] {row(IF, 3, 0, 2), row(GO, 2), row(STORE, 3, 2), row(CHECK, 0), row(SAY, 0)}) {
            desk.renew(0, row(STORE, 0, 0), one, row(SAY, 2));
            desk.due("not set by kind " + one[0], desk.read(0, 0, 2), 1);
        }
    }

    private static void readOnSomeWay(Desk desk) {
        desk.add(0, row(STORE, 0, 0), row(IF, 0, 1, 4), row(SET, 2, 1), row(GIVE, 2), row(SAY, 2), row(SET, 3, 1),
                row(GO, 0));
        desk.dueRead(0, 0, 1, 1, 1, 0);
        desk.dueRead(0, 1, 1, 1, 1, 0);
        desk.dueRead(0, 2, 0, 0, 1, 0);
        desk.dueRead(0, 6, 1, 1, 1, 0);
        desk.add(1, row(SAY, 0), row(GIVE, 0), row(SAY, 2));
        desk.dueRead(1, 0, 1, 0, 0, 0);
        desk.add(2, row(SET, 2, 1), row(IF, 3, 2, 3), row(SAY, 1), row(SAY, 0));
        desk.dueRead(2, 1, 1, 0, 0, 0);
        desk.add(3, row(SAY, 0), row(DIV, 1, 1, 3), row(SAY, 2));
        desk.dueRead(3, 0, 0, 1, 0, 1);
    }

    private static void readInLoops(Desk desk) {
        desk.add(0, row(SAY, 0), row(SAY, 1), row(GO, 0));
        for (int place = 0; place < 3; place++) {
            desk.dueRead(0, place, 1, 1, 0, 0);
        }
        desk.add(1, row(GO, 0));
        desk.dueRead(1, 0, 0, 0, 0, 0);
        desk.add(2, row(GO, 2), row(SAY, 2), row(STORE, 1, 0), row(SET, 1, 3), row(IF, 3, 0, 2), row(GO, 4));
        desk.dueRead(2, 0, 1, 1, 0, 1);
        desk.dueRead(2, 2, 1, 0, 0, 1);
        desk.dueRead(2, 4, 1, 1, 0, 1);
        desk.dueRead(2, 5, 1, 1, 0, 1);
    }

    private static void readBehindIt(Desk desk) {
        desk.add(0, row(SAY, 2));
        desk.due("it reads 2 itself", desk.read(0, 0, 2), 0);
        desk.add(0, row(IF, 0, 1, 0));
        desk.due("behind it, it comes again", desk.read(0, 0, 2), 1);
        desk.due("behind the IF", desk.read(0, 1, 2), 1);
        desk.add(1, row(SET, 3, 1), row(SET, 3, 2), row(GIVE, 3));
        desk.dueRead(1, 0, 0, 0, 0, 0);
        desk.dueRead(1, 1, 0, 0, 0, 1);
    }

    private static void callReads(Desk desk) {
        for (int a = 0; a < 4; a++) {
            desk.renew(0, row(STORE, 0, 0), row(CALL, a, 5), row(SAY, a), row(SAY, 3));
            desk.dueRead(0, 0, 1, 1, 0, a == 3 ? 0 : 1);
            desk.dueRead(0, 1, a == 0 ? 1 : 0, a == 1 ? 1 : 0, a == 2 ? 1 : 0, 1);
        }
    }

    private static void howeverTheyGo(Desk desk) {
        desk.add(0, row(SAY, 0), row(IF, 2, 3, 9), row(GIVE, 0));
        desk.dueRead(0, 0, 1, 0, 1, 1);
        desk.add(1, row(SET, 3, 5), row(IF, 2, 3, 3), row(SAY, 1), row(GIVE, 0));
        desk.dueRead(1, 0, 1, 0, 1, 1);
        desk.dueRead(1, 1, 1, 0, 0, 0);
        desk.add(2, row(SAY, 0), row(CHECK, 3), row(SAY, 1));
        desk.dueRead(2, 0, 0, 0, 0, 1);
        desk.add(3, row(SET, 2, 4), row(CHECK, 2), row(GIVE, 1));
        desk.dueRead(3, 0, 0, 1, 1, 0);
    }

    private static void noneAtTheEnd(Desk desk) {
        desk.add(0, row(SET, 2, 1));
        desk.dueRead(0, 0, 0, 0, 0, 0);
        desk.due("so that it is IDLE", desk.marks(0, 0), 9);
        for (int p : new int[] {1, 12, 24}) {
            desk.renew(1, row(GO, p));
            desk.dueRead(1, 0, 0, 0, 0, 0);
            desk.renew(2, row(IF, 0, 1, p));
            desk.dueRead(2, 0, 0, 0, 0, 0);
        }
    }

    private static void markReached(Desk desk) {
        desk.add(0, row(IF, 0, 1, 3), row(SAY, 0), row(GO, 5), row(SAY, 1), row(GIVE, 1), row(STORE, 0, 0), row(GO, 8),
                row(SAY, 2), row(CALL, 2, 0));
        desk.dueMarks(0, 1, 1, 1, 1, 1, 1, 1, 0, 1);
        desk.add(0, row(IF, 0, 2, 7));
        desk.dueMarks(0, 1, 1, 1, 1, 1, 1, 1, 1, 1, 1);
    }

    private static void marksOfIf(Desk desk) {
        desk.add(0, row(SET, 2, -1), row(IF, 2, 3, 2), row(IF, 3, 2, 0), row(IF, 2, 2, 0), row(IF, 0, 2, 0),
                row(IF, 2, 1, 0), row(SAY, 0));
        desk.dueMarks(0, 1, 3, 5, 5, 1, 1, 1);
        desk.add(1, row(SET, 0, MIN), row(SET, 1, MAX), row(IF, 1, 0, 0), row(IF, 0, 1, 5), row(SAY, 0), row(SAY, 1));
        desk.dueMarks(1, 1, 1, 5, 3, 0, 1);
    }

    private static void markIdle(Desk desk) {
        int[][] rows = {row(SET, 2, 5), row(MOVE, 2, 0), row(ADD, 2, 0, 1), row(TIMES, 2, 0, 1), row(LOAD, 2, 1)};
        for (int[] one : rows) {
            desk.renew(0, one, row(SAY, 3), row(SET, 2, 1), row(SAY, 2));
            desk.dueMarks(0, 9, 1, 1, 1);
            desk.renew(0, one, row(IF, 0, 1, 3), row(SET, 2, 1), row(SAY, 2));
            desk.dueMarks(0, 1, 1, 1, 1);
        }
    }

    private static void markIdleDivision(Desk desk) {
        for (int n : new int[] {MIN, -1, 1, MAX}) {
            desk.renew(0, row(SET, 3, n), row(DIV, 2, 0, 3));
            desk.dueMarks(0, 1, 9);
        }
        desk.renew(0, row(SET, 3, 2), row(DIV, 2, 0, 3), row(GIVE, 2));
        desk.dueMarks(0, 1, 1, 1);
        desk.renew(0, row(DIV, 2, 3, 0), row(DIV, 2, 0, 1));
        desk.dueMarks(0, 1, 1);
        desk.renew(0, row(DIV, 2, 0, 3));
        desk.dueMarks(0, 1);
    }

    private static void neverIdle(Desk desk) {
        desk.add(0, row(CALL, 2, 1), row(STORE, 0, 0), row(SAY, 0), row(CHECK, 0), row(IF, 0, 1, 5), row(GO, 6),
                row(GIVE, 0));
        desk.dueMarks(0, 1, 1, 1, 1, 1, 1, 1);
    }

    private static void markCheck(Desk desk) {
        for (int n : new int[] {MIN, -1, 1, MAX}) {
            desk.renew(0, row(SET, 2, n), row(CHECK, 2), row(SAY, 0));
            desk.dueMarks(0, 1, 17, 1);
        }
        desk.renew(0, row(CHECK, 0), row(LOAD, 0, 0), row(CHECK, 0), row(CHECK, 3), row(CHECK, 0));
        desk.dueMarks(0, 1, 1, 1, 1, 0);
        desk.renew(0, row(SET, 2, 1), row(IF, 0, 1, 3), row(SET, 2, 2), row(CHECK, 2));
        desk.dueMarks(0, 1, 1, 1, 1);
    }

    private static void marksOfNone(Desk desk) {
        desk.add(0, row(SET, 2, 1), row(GIVE, 0), row(SET, 2, 5), row(IF, 3, 2, 0), row(IF, 2, 3, 0), row(CHECK, 2),
                row(LOAD, 3, 0), row(DIV, 3, 0, 2));
        desk.dueMarks(0, 9, 1, 0, 0, 0, 0, 0, 0);
    }

    private static void usedAreRoots(Desk desk) {
        for (int m = 0; m < 8; m++) {
            desk.due("no ROOT at first: " + m, desk.used(m), 0);
        }
        desk.root(2, true);
        desk.root(7, true);
        for (int m = 0; m < 8; m++) {
            desk.due("ROOTS 2 and 7: " + m, desk.used(m), m == 2 || m == 7 ? 1 : 0);
        }
        desk.root(2, false);
        desk.due("2 is none any more", desk.used(2), 0);
        desk.due("7 is one still", desk.used(7), 1);
    }

    private static void usedAreCalled(Desk desk) {
        desk.add(7, row(CALL, 0, 3), row(CALL, 0, 6));
        desk.add(3, row(CALL, 0, 1));
        desk.add(1, row(CALL, 0, 7), row(CALL, 0, 1));
        desk.add(0, row(CALL, 0, 2), row(CALL, 0, 7));
        desk.due("without ROOTS", desk.used(3), 0);
        desk.root(7, true);
        int[] want = {0, 1, 0, 1, 0, 0, 1, 1};
        for (int m = 0; m < 8; m++) {
            desk.due("used " + m, desk.used(m), want[m]);
        }
        desk.root(7, false);
        desk.root(0, true);
        for (int m = 0; m < 8; m++) {
            desk.due("used " + m + " by 0", desk.used(m), m == 4 || m == 5 ? 0 : 1);
        }
        desk.cut(7);
        desk.due("3 without the one that called it", desk.used(3), 0);
        desk.due("7 is called still", desk.used(7), 1);
    }

    private static void usedAllThrough(Desk desk) {
        int[] order = {5, 2, 7, 0, 6, 1, 4, 3};
        for (int i = 0; i < 7; i++) {
            desk.add(order[i], row(CALL, 2, order[i + 1]));
        }
        desk.add(3, row(STORE, 0, 2), row(LOAD, 0, 3));
        desk.root(5, true);
        for (int m = 0; m < 8; m++) {
            desk.due("used " + m, desk.used(m), 1);
        }
        desk.due("WRITTEN by the last one", desk.field(2), 2);
        desk.due("READ by the last one", desk.field(3), 1);
        desk.cut(0);
        for (int m = 0; m < 8; m++) {
            desk.due("used " + m, desk.used(m), m == 5 || m == 2 || m == 7 || m == 0 ? 1 : 0);
        }
        desk.due("the last one is not USED", desk.field(2), 0);
    }

    private static void calledWhereReached(Desk desk) {
        desk.root(0, true);
        desk.add(0, row(SET, 2, 1), row(IF, 3, 2, 3), row(CALL, 2, 1), row(CALL, 2, 2), row(GIVE, 0), row(CALL, 2, 3));
        int[] want = {1, 0, 1, 0};
        for (int m = 0; m < 4; m++) {
            desk.due("used " + m, desk.used(m), want[m]);
        }
        desk.add(2, row(CHECK, 2), row(CALL, 2, 4));
        desk.due("behind a CHECK of 0", desk.used(4), 0);
        desk.renew(2, row(CHECK, 0), row(CALL, 2, 4));
        desk.due("behind a CHECK of ANY", desk.used(4), 1);
    }

    private static void ofFields(Desk desk) {
        desk.root(1, true);
        desk.add(1, row(LOAD, 2, 0), row(STORE, 2, 1), row(LOAD, 2, 2), row(STORE, 2, 2));
        int[] want = {1, 2, 3, 0};
        for (int f = 0; f < 4; f++) {
            desk.due("field " + f, desk.field(f), want[f]);
        }
        desk.add(1, row(STORE, 0, 0), row(LOAD, 3, 3));
        desk.due("field 0", desk.field(0), 3);
        desk.due("field 3", desk.field(3), 1);
    }

    private static void fieldsOfUsed(Desk desk) {
        desk.add(0, row(LOAD, 2, 0), row(CALL, 2, 1), row(GIVE, 2), row(STORE, 2, 0));
        desk.add(1, row(STORE, 0, 1));
        desk.add(2, row(LOAD, 2, 2), row(STORE, 2, 2));
        for (int f = 0; f < 4; f++) {
            desk.due("without ROOTS: " + f, desk.field(f), 0);
        }
        desk.root(0, true);
        int[] want = {1, 2, 0, 0};
        for (int f = 0; f < 4; f++) {
            desk.due("field " + f, desk.field(f), want[f]);
        }
        desk.root(2, true);
        desk.due("field 2", desk.field(2), 3);
        desk.root(0, false);
        desk.due("field 0 of one that is not USED", desk.field(0), 0);
        desk.due("field 1 of one that is not USED", desk.field(1), 0);
    }

    private static void doubledCount(Desk desk) {
        desk.add(1, row(SAY, 0), row(SAY, 0));
        desk.add(2, row(SAY, 0));
        desk.add(3, row(SAY, 0), row(SAY, 0));
        int[] want = {0, 1, 2, 1, 0, 0};
        for (int m = 0; m < want.length; m++) {
            desk.due("doubled " + m, desk.doubled(m), want[m]);
        }
        desk.add(2, row(SAY, 0));
        desk.due("now as many", desk.doubled(2), 1);
        desk.cut(1);
        desk.due("the least of those that are left", desk.doubled(3), 2);
        desk.due("none, and none", desk.doubled(1), 0);
    }

    private static void doubledParts(Desk desk) {
        int[][] unlike = {row(SET, 0, 4), row(SET, 0, 5), row(MOVE, 0, 0), row(ADD, 0, 0, 1), row(TIMES, 0, 0, 1),
            row(IF, 0, 0, 1), row(IF, 0, 0, 2), row(GO, 1), row(GO, 2), row(LOAD, 0, 1), row(LOAD, 0, 2),
            row(STORE, 0, 1), row(CALL, 0, 1), row(CALL, 0, 2), row(GIVE, 0), row(CHECK, 0), row(SAY, 0), row(SAY, 1)};
        for (int i = 0; i + 1 < unlike.length; i++) {
            desk.renew(0, unlike[i]);
            desk.renew(1, unlike[i + 1]);
            desk.due("row " + i + " and the next", desk.doubled(1), 1);
        }
        for (int[] one : new int[][] {unlike[0], unlike[6], unlike[10], unlike[13]}) {
            desk.renew(0, one);
            desk.renew(1, one);
            desk.due("the same twice", desk.doubled(1), 0);
        }
    }

    private static void doubledRegisters(Desk desk) {
        desk.add(0, row(SET, 2, 3), row(MOVE, 3, 2), row(SAY, 0));
        desk.add(1, row(SET, 3, 3), row(MOVE, 2, 3), row(SAY, 0));
        desk.add(2, row(SET, 3, 2), row(MOVE, 2, 3), row(SAY, 0));
        desk.add(3, row(SET, 3, 3), row(MOVE, 3, 2), row(SAY, 0));
        desk.add(4, row(SET, 3, 3), row(MOVE, 2, 3), row(SAY, 1));
        int[] want = {0, 0, 2, 3, 4};
        for (int m = 0; m < want.length; m++) {
            desk.due("doubled " + m, desk.doubled(m), want[m]);
        }
        desk.renew(0, row(SAY, 3));
        desk.renew(1, row(SAY, 2));
        desk.due("one register alone", desk.doubled(1), 0);
        desk.renew(0, row(SAY, 0));
        desk.renew(1, row(SAY, 1));
        desk.due("0 and 1 keep their names", desk.doubled(1), 1);
    }

    private static void doubledOrder(Desk desk) {
        desk.add(0, row(ADD, 2, 3, 0), row(STORE, 3, 1));
        desk.add(1, row(ADD, 3, 2, 0), row(STORE, 2, 1));
        desk.add(2, row(ADD, 3, 2, 0), row(STORE, 3, 1));
        desk.due("named first as a", desk.doubled(1), 0);
        desk.due("the other one stored", desk.doubled(2), 2);
        desk.renew(0, row(TIMES, 0, 2, 3), row(GIVE, 3));
        desk.renew(1, row(TIMES, 0, 3, 2), row(GIVE, 2));
        desk.renew(2, row(TIMES, 0, 3, 2), row(GIVE, 3));
        desk.due("named first as b", desk.doubled(1), 0);
        desk.due("the other one given", desk.doubled(2), 2);
        desk.renew(0, row(SET, 0, 3), row(GO, 3), row(DIV, 1, 0, 2), row(SAY, 3));
        desk.renew(1, row(SET, 0, 3), row(GO, 3), row(DIV, 1, 0, 3), row(SAY, 2));
        desk.due("named first as c", desk.doubled(1), 0);
        desk.renew(0, row(ADD, 0, 1, 2));
        desk.renew(1, row(ADD, 0, 1, 3));
        desk.due("named as c alone", desk.doubled(1), 0);
    }
}
