/** Part 3 of Terms, sentence by sentence: THE TRIAL, and the answers below -100. */
public final class TrialSentenceTest extends Sentences {
    public static void main(String[] args) {
        play("THE TRIAL is a second program", TRIAL | RUN, TrialSentenceTest::secondProgram);
        play("MEMBERS that are not USED have none there", TRIAL | SPARE, TrialSentenceTest::notUsed);
        play("its INSTRUCTIONS that are REACHED", TRIAL, TrialSentenceTest::reached);
        play("without those of MARK 4", TRIAL, TrialSentenceTest::withoutNeverTaken);
        play("without those of MARK 8", TRIAL, TrialSentenceTest::withoutIdle);
        play("without those of MARK 16", TRIAL, TrialSentenceTest::withoutChecks);
        play("those of other MARKS stay", TRIAL, TrialSentenceTest::othersStay);
        play("one of MARK 2 is GO there", TRIAL, TrialSentenceTest::alwaysTaken);
        play("a place p of IF, GO", TRIAL, TrialSentenceTest::places);
        play("a place p beyond THE END", TRIAL, TrialSentenceTest::placesBeyond);
        play("again and again: what a MOVE read", TRIAL, TrialSentenceTest::againForReads);
        play("again and again: what an IF, a CHECK read", TRIAL, TrialSentenceTest::againForTests);
        play("again and again: 24 times", TRIAL, TrialSentenceTest::againToTheLast);
        play("again and again: places, too", TRIAL, TrialSentenceTest::againForPlaces);
        play("each MEMBER for itself", TRIAL, TrialSentenceTest::eachForItself);
        play("a trial program that does the same", TRIAL | RUN, TrialSentenceTest::doesTheSame);
        play("UNKNOWN: no such MEMBER", 0, TrialSentenceTest::noSuchMember);
        play("UNKNOWN: no such place", 0, TrialSentenceTest::noSuchPlace);
        play("UNKNOWN: no such FIELD, register, KIND", 0, TrialSentenceTest::noSuchOther);
        play("OUTSIDE: another number", RUN, TrialSentenceTest::outside);
        play("STATE: there is no TRIAL", NEW, TrialSentenceTest::noTrial);
        play("the first that fits", NEW, TrialSentenceTest::theFirstThatFits);
        play("the first that fits, of FULL", 0, TrialSentenceTest::theFirstOfFull);
        play("then nothing changes: the program", 0, TrialSentenceTest::programStays);
        play("then nothing changes: ROOTS", 0, TrialSentenceTest::rootsStay);
        play("then nothing changes: THE TRIAL, the RUN", TRIAL | RUN, TrialSentenceTest::trialAndRunStay);
        checks.end("TrialSentenceTest");
    }

    private static void secondProgram(Desk desk) {
        desk.root(0, true);
        desk.add(0, row(SET, 2, 5), row(SET, 2, 6), row(GIVE, 2));
        desk.due("fewer", desk.trial(), 1);
        desk.due("size in the program", desk.size(0, 0), 3);
        desk.dueTrial(0, row(SET, 2, 6), row(GIVE, 2));
        desk.due("the first stays what it was", desk.part(0, 0, 0, 2), 5);
        desk.renew(0, row(GIVE, 1));
        desk.due("run of the program", desk.run(0, 0, 8, 9), 0);
        desk.due("given", desk.told(0), 9);
        desk.due("run of THE TRIAL", desk.run(1, 0, 8, 9), 0);
        desk.due("given there", desk.told(0), 6);
        desk.due("marks are of the program", desk.marks(0, 1), UNKNOWN);
    }

    private static void notUsed(Desk desk) {
        for (int m = 0; m < 8; m++) {
            desk.add(m, row(STORE, 0, 0), row(GIVE, 1));
        }
        desk.root(3, true);
        desk.renew(3, row(CALL, 2, 5));
        desk.due("fewer", desk.trial(), 12);
        for (int m = 0; m < 8; m++) {
            desk.due("size of " + m, desk.size(1, m), m == 3 ? 1 : m == 5 ? 2 : 0);
        }
        desk.root(3, false);
        desk.due("fewer without ROOTS", desk.trial(), 15);
        desk.due("size of 3", desk.size(1, 3), 0);
    }

    private static void reached(Desk desk) {
        desk.root(0, true);
        desk.add(0, row(GO, 2), row(SAY, 3), row(SAY, 0), row(IF, 0, 1, 6), row(GIVE, 1), row(SAY, 2), row(SAY, 1));
        desk.due("fewer", desk.trial(), 2);
        desk.dueTrial(0, row(GO, 1), row(SAY, 0), row(IF, 0, 1, 4), row(GIVE, 1), row(SAY, 1));
    }

    private static void withoutNeverTaken(Desk desk) {
        desk.root(0, true);
        desk.add(0, row(IF, 2, 3, 2), row(SAY, 0), row(IF, 3, 3, 0), row(GIVE, 1));
        desk.due("fewer", desk.trial(), 2);
        desk.dueTrial(0, row(SAY, 0), row(GIVE, 1));
    }

    private static void withoutIdle(Desk desk) {
        desk.root(0, true);
        desk.add(0, row(SET, 2, 5), row(MOVE, 2, 0), row(ADD, 2, 0, 1), row(TIMES, 2, 0, 1), row(LOAD, 2, 0),
                row(SET, 2, 3), row(DIV, 3, 0, 2), row(GIVE, 2));
        desk.due("fewer", desk.trial(), 6);
        desk.dueTrial(0, row(SET, 2, 3), row(GIVE, 2));
    }

    private static void withoutChecks(Desk desk) {
        desk.root(0, true);
        desk.add(0, row(SET, 2, -1), row(CHECK, 2), row(SAY, 2), row(CHECK, 0));
        desk.due("fewer", desk.trial(), 1);
        desk.dueTrial(0, row(SET, 2, -1), row(SAY, 2), row(CHECK, 0));
        desk.renew(0, row(SAY, 1), row(CHECK, 2), row(SAY, 0));
        desk.due("a CHECK of 0 stays", desk.trial(), 1);
        desk.dueTrial(0, row(SAY, 1), row(CHECK, 2));
    }

    private static void othersStay(Desk desk) {
        desk.root(0, true);
        desk.add(0, row(CALL, 2, 1), row(DIV, 2, 0, 1), row(STORE, 0, 3), row(IF, 0, 1, 4), row(CHECK, 1), row(DIV, 2, 1, 3));
        desk.due("fewer", desk.trial(), 0);
        desk.dueTrial(0, row(CALL, 2, 1), row(DIV, 2, 0, 1), row(STORE, 0, 3), row(IF, 0, 1, 4), row(CHECK, 1),
                row(DIV, 2, 1, 3));
    }

    private static void alwaysTaken(Desk desk) {
        desk.root(5, true);
        desk.add(5, row(SET, 2, -1), row(IF, 2, 3, 4), row(SAY, 0), row(SAY, 1), row(SAY, 2));
        desk.due("fewer", desk.trial(), 2);
        desk.dueTrial(5, row(SET, 2, -1), row(GO, 2), row(SAY, 2));
        desk.renew(5, row(SET, 2, -1), row(IF, 2, 3, 1));
        desk.due("one that goes to itself", desk.trial(), 1);
        desk.dueTrial(5, row(GO, 0));
    }

    private static void places(Desk desk) {
        desk.root(0, true);
        desk.add(0, row(LOAD, 2, 0), row(IF, 0, 1, 4), row(LOAD, 2, 0), row(SAY, 0), row(LOAD, 2, 0), row(IF, 1, 0, 2),
                row(GO, 0), row(SAY, 3));
        desk.due("fewer", desk.trial(), 4);
        desk.dueTrial(0, row(IF, 0, 1, 2), row(SAY, 0), row(IF, 1, 0, 1), row(GO, 0));
    }

    private static void placesBeyond(Desk desk) {
        desk.root(0, true);
        desk.root(1, true);
        desk.add(0, row(IF, 0, 1, 24), row(SET, 2, 4), row(GO, 9));
        desk.add(1, row(IF, 0, 1, 2), row(SAY, 0));
        desk.due("fewer", desk.trial(), 1);
        desk.dueTrial(0, row(IF, 0, 1, 2), row(GO, 2));
        desk.dueTrial(1, row(IF, 0, 1, 2), row(SAY, 0));
        desk.due("the program's stay", desk.part(0, 0, 0, 3), 24);
    }

    private static void againForReads(Desk desk) {
        desk.root(0, true);
        desk.add(0, row(SET, 2, 5), row(MOVE, 3, 2), row(ADD, 2, 3, 3), row(TIMES, 3, 2, 2), row(GIVE, 0));
        desk.dueMarks(0, 1, 1, 1, 9, 1);
        desk.due("fewer", desk.trial(), 4);
        desk.dueTrial(0, row(GIVE, 0));
    }

    private static void againForTests(Desk desk) {
        desk.root(0, true);
        desk.root(1, true);
        desk.root(2, true);
        desk.add(0, row(SET, 2, 5), row(CHECK, 2), row(SAY, 0));
        desk.add(1, row(SET, 2, 5), row(IF, 2, 3, 0), row(SAY, 0));
        desk.add(2, row(SET, 2, 5), row(IF, 3, 2, 2), row(SAY, 0));
        desk.due("fewer", desk.trial(), 5);
        desk.dueTrial(0, row(SAY, 0));
        desk.dueTrial(1, row(SAY, 0));
        desk.dueTrial(2, row(GO, 1), row(SAY, 0));
    }

    private static void againToTheLast(Desk desk) {
        desk.root(7, true);
        for (int place = 0; place < 24; place++) {
            desk.add(7, row(ADD, 2 + place % 2, 3 - place % 2, 0));
        }
        desk.due("only the last one is IDLE", desk.marks(7, 22), 1);
        desk.due("fewer", desk.trial(), 24);
        desk.due("size", desk.size(1, 7), 0);
        desk.renew(7);
        for (int place = 0; place < 23; place++) {
            desk.add(7, row(MOVE, 2 + place % 2, 3 - place % 2));
        }
        desk.add(7, row(SAY, 0));
        desk.due("fewer", desk.trial(), 23);
        desk.dueTrial(7, row(SAY, 0));
    }

    private static void againForPlaces(Desk desk) {
        desk.root(0, true);
        desk.add(0, row(SET, 2, 5), row(MOVE, 3, 2), row(SAY, 0), row(IF, 0, 1, 2), row(CHECK, 2), row(GO, 1));
        desk.due("fewer", desk.trial(), 3);
        desk.dueTrial(0, row(SAY, 0), row(IF, 0, 1, 0), row(GO, 0));
    }

    private static void eachForItself(Desk desk) {
        desk.root(0, true);
        desk.add(0, row(SET, 0, 1), row(CALL, 2, 1), row(GIVE, 2));
        desk.add(1, row(CHECK, 0), row(LOAD, 2, 0), row(GIVE, 0));
        desk.add(2, row(SAY, 0));
        desk.due("fewer", desk.trial(), 2);
        desk.dueTrial(0, row(SET, 0, 1), row(CALL, 2, 1), row(GIVE, 2));
        desk.dueTrial(1, row(CHECK, 0), row(GIVE, 0));
    }

    private static void doesTheSame(Desk desk) {
        desk.root(0, true);
        desk.add(0, row(SET, 2, 3), row(IF, 3, 2, 3), row(SAY, 3), row(CHECK, 2), row(LOAD, 3, 0), row(CALL, 3, 1),
                row(SAY, 3), row(IF, 3, 2, 4), row(STORE, 3, 2), row(DIV, 3, 3, 1), row(GIVE, 3));
        desk.add(1, row(LOAD, 2, 1), row(SET, 3, 1), row(ADD, 2, 2, 3), row(STORE, 2, 1), row(MOVE, 3, 0), row(GIVE, 2));
        desk.due("fewer", desk.trial(), 4);
        for (int which = 0; which < 2; which++) {
            desk.due("how it ends", desk.run(which, 0, 5, 2), 0);
            desk.due("given", desk.told(0), 1);
            desk.dueSaid(1, 2, 3);
            desk.due("FIELD 1", desk.told(4), 3);
            desk.due("FIELD 2", desk.told(5), 3);
            desk.due("how it ends, by 0", desk.run(which, 0, 5, 0), 1);
            desk.due("given, by 0", desk.told(0), 0);
        }
    }

    private static void noSuchMember(Desk desk) {
        desk.add(0, row(SAY, 0));
        desk.trial();
        for (int m : new int[] {MIN, -1, 8, MAX}) {
            desk.due("put", desk.put(m, SET, 0, 0, 0), UNKNOWN);
            desk.due("cut", desk.cut(m), UNKNOWN);
            desk.due("root", desk.root(m, true), UNKNOWN);
            desk.due("run", desk.run(0, m, 0, 0), UNKNOWN);
            desk.due("run of THE TRIAL", desk.run(1, m, 0, 0), UNKNOWN);
            desk.due("marks", desk.marks(m, 0), UNKNOWN);
            desk.due("known", desk.known(m, 0, 0), UNKNOWN);
            desk.due("read", desk.read(m, 0, 0), UNKNOWN);
            desk.due("used", desk.used(m), UNKNOWN);
            desk.due("doubled", desk.doubled(m), UNKNOWN);
            desk.due("size", desk.size(0, m), UNKNOWN);
            desk.due("size in THE TRIAL", desk.size(1, m), UNKNOWN);
            desk.due("part", desk.part(0, m, 0, 0), UNKNOWN);
            desk.due("CALL of it", desk.put(0, CALL, 0, m, 0), UNKNOWN);
        }
    }

    private static void noSuchPlace(Desk desk) {
        desk.root(0, true);
        desk.add(0, row(SAY, 0), row(SAY, 1));
        desk.trial();
        for (int place : new int[] {MIN, -1, 2, 23, 24, 25, MAX}) {
            desk.due("marks", desk.marks(0, place), UNKNOWN);
            desk.due("known", desk.known(0, place, 0), UNKNOWN);
            desk.due("read", desk.read(0, place, 0), UNKNOWN);
            desk.due("part", desk.part(0, 0, place, 0), UNKNOWN);
        }
    }

    private static void noSuchOther(Desk desk) {
        desk.add(0, row(SAY, 0));
        for (int no : new int[] {MIN, -1, 4, MAX}) {
            desk.due("field", desk.field(no), UNKNOWN);
            desk.due("LOAD", desk.put(0, LOAD, 0, no, 0), UNKNOWN);
            desk.due("STORE", desk.put(0, STORE, 0, no, 0), UNKNOWN);
            desk.due("known", desk.known(0, 0, no), UNKNOWN);
            desk.due("read", desk.read(0, 0, no), UNKNOWN);
            desk.due("ADD, a", desk.put(0, ADD, no, 0, 0), UNKNOWN);
            desk.due("ADD, b", desk.put(0, ADD, 0, no, 0), UNKNOWN);
            desk.due("ADD, c", desk.put(0, ADD, 0, 0, no), UNKNOWN);
            desk.due("KIND", desk.put(0, no == 4 ? 13 : no, 0, 0, 0), UNKNOWN);
        }
        desk.due("size", desk.size(0, 0), 1);
    }

    private static void outside(Desk desk) {
        desk.root(0, true);
        desk.add(0, row(SAY, 0));
        desk.trial();
        for (int no : new int[] {MIN, -1, 25, MAX}) {
            desk.due("put of GO", desk.put(0, GO, no, 0, 0), OUTSIDE);
            desk.due("put of IF", desk.put(0, IF, 0, 0, no), OUTSIDE);
            desk.due("run", desk.run(no == 25 ? 2 : no, 0, 0, 0), OUTSIDE);
            desk.due("told", desk.told(no == 25 ? 7 : no), OUTSIDE);
            desk.due("size", desk.size(no == 25 ? 2 : no, 0), OUTSIDE);
            desk.due("part, which", desk.part(no == 25 ? 2 : no, 0, 0, 0), OUTSIDE);
            desk.due("part, what", desk.part(0, 0, 0, no == 25 ? 4 : no), OUTSIDE);
            desk.due("part of THE TRIAL, what", desk.part(1, 0, 0, no == 25 ? 4 : no), OUTSIDE);
        }
    }

    private static void noTrial(Desk desk) {
        desk.root(0, true);
        desk.add(0, row(SAY, 0));
        desk.due("run", desk.run(1, 0, 0, 0), STATE);
        desk.due("size", desk.size(1, 0), STATE);
        desk.due("part", desk.part(1, 0, 0, 0), STATE);
        desk.due("trial", desk.trial(), 0);
        desk.due("run", desk.run(1, 0, 0, 0), 0);
        desk.due("size", desk.size(1, 0), 1);
        desk.due("part", desk.part(1, 0, 0, 0), SAY);
        desk.clear();
        desk.due("run behind clear", desk.run(1, 0, 0, 0), STATE);
        desk.due("size behind clear", desk.size(1, 0), STATE);
        desk.due("part behind clear", desk.part(1, 0, 0, 0), STATE);
    }

    private static void theFirstThatFits(Desk desk) {
        desk.add(0, row(SAY, 0));
        desk.due("run: UNKNOWN, OUTSIDE", desk.run(2, 8, 0, 0), UNKNOWN);
        desk.due("run: UNKNOWN, STATE", desk.run(1, 8, 0, 0), UNKNOWN);
        desk.due("size: UNKNOWN, OUTSIDE", desk.size(-1, -1), UNKNOWN);
        desk.due("size: UNKNOWN, STATE", desk.size(1, -1), UNKNOWN);
        desk.due("part: the MEMBER, which, what, the place", desk.part(2, 8, 9, 4), UNKNOWN);
        desk.due("part: the MEMBER, STATE", desk.part(1, 8, 9, 0), UNKNOWN);
        desk.due("part: which, the place", desk.part(2, 0, 9, 0), OUTSIDE);
        desk.due("part: what, STATE, the place", desk.part(1, 0, 9, 4), OUTSIDE);
        desk.due("part: what, the place", desk.part(0, 0, 9, -1), OUTSIDE);
        desk.due("part: STATE, the place", desk.part(1, 0, 9, 0), STATE);
        desk.due("part: the place", desk.part(0, 0, 9, 0), UNKNOWN);
        desk.due("put: the MEMBER, a place", desk.put(8, GO, 25, 0, 0), UNKNOWN);
        desk.due("put: a register, a place", desk.put(0, IF, 0, 4, 25), UNKNOWN);
    }

    private static void theFirstOfFull(Desk desk) {
        for (int i = 0; i < 24; i++) {
            desk.add(4, row(SAY, 1));
        }
        desk.due("UNKNOWN, FULL", desk.put(4, SAY, 4, 0, 0), UNKNOWN);
        desk.due("OUTSIDE, FULL", desk.put(4, GO, 25, 0, 0), OUTSIDE);
        desk.due("OUTSIDE, FULL", desk.put(4, IF, 0, 0, -1), OUTSIDE);
        desk.due("UNKNOWN, OUTSIDE, FULL", desk.put(4, IF, 4, 0, -1), UNKNOWN);
        desk.due("no such KIND, FULL", desk.put(4, 13, 0, 0, 0), UNKNOWN);
        desk.due("FULL", desk.put(4, GO, 24, 0, 0), FULL);
        desk.due("another one is not", desk.put(3, GO, 24, 0, 0), 0);
    }

    private static void programStays(Desk desk) {
        for (int i = 0; i < 24; i++) {
            desk.add(4, row(SET, 1, i));
        }
        desk.add(3, row(SAY, 1));
        desk.put(4, SET, 0, 99, 0);
        desk.put(3, SET, 4, 99, 0);
        desk.put(3, GO, 25, 0, 0);
        desk.put(3, 13, 0, 0, 0);
        desk.put(8, SET, 0, 0, 0);
        desk.cut(8);
        desk.cut(-1);
        desk.due("size of 4", desk.size(0, 4), 24);
        desk.due("size of 3", desk.size(0, 3), 1);
        desk.due("the last of 4", desk.part(0, 4, 23, 2), 23);
        desk.due("the first of 4", desk.part(0, 4, 0, 2), 0);
        desk.due("the next of 3", desk.put(3, SAY, 0, 0, 0), 1);
        desk.due("the first of 3", desk.part(0, 3, 0, 1), 1);
    }

    private static void rootsStay(Desk desk) {
        desk.root(0, true);
        desk.root(7, true);
        desk.root(-1, true);
        desk.root(8, true);
        desk.root(8, false);
        desk.root(MIN, false);
        for (int m = 0; m < 8; m++) {
            desk.due("ROOT " + m, desk.used(m), m == 0 || m == 7 ? 1 : 0);
        }
        desk.due("0 was one", desk.root(0, true), 0);
        desk.due("1 was none", desk.root(1, false), 0);
    }

    private static void trialAndRunStay(Desk desk) {
        desk.root(0, true);
        desk.add(0, row(SAY, 1), row(STORE, 0, 2), row(LOAD, 2, 1), row(GIVE, 0));
        desk.trial();
        desk.run(0, 0, 31, 32);
        desk.add(0, row(SAY, 3));
        desk.root(0, false);
        desk.run(2, 0, 1, 1);
        desk.run(-1, 0, 1, 1);
        desk.run(0, 8, 1, 1);
        desk.run(1, -1, 1, 1);
        desk.put(0, IF, 0, 0, 25);
        desk.size(2, 0);
        desk.part(1, 0, 3, 0);
        long[] want = {31, 4, 1, 0, 0, 31, 0};
        for (int what = 0; what < want.length; what++) {
            desk.due("told " + what, desk.told(what), want[what]);
        }
        desk.due("said 0", desk.said(0), 32);
        desk.dueTrial(0, row(SAY, 1), row(STORE, 0, 2), row(GIVE, 0));
    }
}
