/** Promises 1 to 17, sentence by sentence. */
public final class PromiseSentenceTest extends Sentences {
    public static void main(String[] args) {
        play("1: no INSTRUCTIONS, no ROOTS", NEW, PromiseSentenceTest::newProgram);
        play("1: no TRIAL, no RUN", NEW, PromiseSentenceTest::newTrialAndRun);
        play("2: its place", 0, PromiseSentenceTest::putPlace);
        play("2: a, b, c as its KIND names them", 0, PromiseSentenceTest::putParts);
        play("2: what it has not is not looked at", 0, PromiseSentenceTest::putNotLookedAt);
        play("2: registers, FIELDS, MEMBERS", 0, PromiseSentenceTest::putRanges);
        play("2: UNKNOWN of each KIND", 0, PromiseSentenceTest::putUnknown);
        play("2: places 0 .. 24, n any int", 0, PromiseSentenceTest::putPlacesAndNumbers);
        play("2: FULL", SPARE, PromiseSentenceTest::putFull);
        play("2: THE TRIAL stays", TRIAL, PromiseSentenceTest::putLeavesTrial);
        play("3: how many it had", 0, PromiseSentenceTest::cutTells);
        play("3: no INSTRUCTIONS any more", RUN, PromiseSentenceTest::cutAway);
        play("3: THE TRIAL stays", TRIAL | RUN, PromiseSentenceTest::cutLeavesTrial);
        play("4: 1; 0: it was so", SPARE, PromiseSentenceTest::rootTells);
        play("4: a MEMBER is a ROOT, or not", 0, PromiseSentenceTest::rootOrNot);
        play("5: how many INSTRUCTIONS fewer", TRIAL | SPARE, PromiseSentenceTest::trialTells);
        play("5: of the program as it is", TRIAL, PromiseSentenceTest::trialAsItIs);
        play("6: of the program, of THE TRIAL", TRIAL | RUN, PromiseSentenceTest::runOfBoth);
        play("6: how it ended", TRIAL | RUN, PromiseSentenceTest::runEnds);
        play("6: UNKNOWN; OUTSIDE; STATE", NEW, PromiseSentenceTest::runRefused);
        play("7: told 0 .. 6", RUN, PromiseSentenceTest::toldEach);
        play("7: 0, if it ended otherwise", RUN, PromiseSentenceTest::toldOtherwise);
        play("7: of the latest RUN", TRIAL | RUN, PromiseSentenceTest::toldLatest);
        play("7: 0 without one; OUTSIDE", NEW, PromiseSentenceTest::toldWithout);
        play("8: what was said i-th", RUN, PromiseSentenceTest::saidEach);
        play("8: beyond the first 60", RUN, PromiseSentenceTest::saidSixty);
        play("8: none such", RUN, PromiseSentenceTest::saidNone);
        play("9: MARKS together", 0, PromiseSentenceTest::marksTogether);
        play("9: as the program is", 0, PromiseSentenceTest::marksAsItIs);
        play("10: a CONSTANT, ANY, not REACHED", 0, PromiseSentenceTest::knownEach);
        play("10: any int is a CONSTANT", 0, PromiseSentenceTest::knownNumbers);
        play("10: UNKNOWN, also THE END", 0, PromiseSentenceTest::knownUnknown);
        play("11: 1, 0, also if it is not REACHED", 0, PromiseSentenceTest::readEach);
        play("12: 1, 0", 0, PromiseSentenceTest::usedEach);
        play("13: 1, 2 together", 0, PromiseSentenceTest::fieldEach);
        play("14: the least MEMBER", 0, PromiseSentenceTest::doubledLeast);
        play("15: in the program, in THE TRIAL", TRIAL, PromiseSentenceTest::sizeOfBoth);
        play("16: its KIND, a, b, c", TRIAL, PromiseSentenceTest::partEach);
        play("16: 0, if it has no such", 0, PromiseSentenceTest::partNoSuch);
        play("16: in THE TRIAL", TRIAL, PromiseSentenceTest::partOfTrial);
        play("17: how many there were", SPARE, PromiseSentenceTest::clearTells);
        play("17: no INSTRUCTIONS, no ROOTS, no TRIAL, no RUN", TRIAL | RUN, PromiseSentenceTest::clearAll);
        checks.end("PromiseSentenceTest");
    }

    private static final int[][] ALL_KINDS = {row(SET, 3, -9), row(MOVE, 3, 1), row(ADD, 1, 2, 3), row(TIMES, 3, 2, 1),
        row(DIV, 2, 3, 1), row(IF, 1, 3, 24), row(GO, 23), row(LOAD, 3, 2), row(STORE, 2, 3), row(CALL, 3, 7),
        row(GIVE, 3), row(CHECK, 2), row(SAY, 1)};

    private static void newProgram(Desk desk) {
        for (int m = 0; m < 8; m++) {
            desk.due("size of " + m, desk.size(0, m), 0);
            desk.due("used " + m, desk.used(m), 0);
            desk.due("doubled " + m, desk.doubled(m), 0);
            desk.due("root off " + m, desk.root(m, false), 0);
            desk.due("cut " + m, desk.cut(m), 0);
        }
        for (int f = 0; f < 4; f++) {
            desk.due("field " + f, desk.field(f), 0);
        }
        desk.due("clear", desk.clear(), 0);
    }

    private static void newTrialAndRun(Desk desk) {
        for (int m = 0; m < 8; m++) {
            desk.due("size of " + m, desk.size(1, m), STATE);
            desk.due("part of " + m, desk.part(1, m, 0, 0), STATE);
            desk.due("run of " + m, desk.run(1, m, 1, 1), STATE);
        }
        for (int what = 0; what < 7; what++) {
            desk.due("told " + what, desk.told(what), 0);
        }
        for (int i : new int[] {0, 1, 59}) {
            desk.due("said " + i, desk.said(i), 0);
        }
    }

    private static void putPlace(Desk desk) {
        for (int place = 0; place < 13; place++) {
            int[] one = ALL_KINDS[place];
            desk.due("put to 0", desk.put(0, one[0], one[1], one[2], one[3]), place);
            desk.due("put to 5", desk.put(5, one[0], one[1], one[2], one[3]), place);
        }
        desk.due("cut", desk.cut(0), 13);
        desk.due("put behind a cut", desk.put(0, SAY, 0, 0, 0), 0);
        desk.due("put to the other one", desk.put(5, SAY, 0, 0, 0), 13);
    }

    private static void putParts(Desk desk) {
        desk.add(0, ALL_KINDS);
        for (int place = 0; place < 13; place++) {
            for (int what = 0; what < 4; what++) {
                desk.due("part " + what + " of " + place, desk.part(0, 0, place, what), ALL_KINDS[place][what]);
            }
        }
    }

    private static void putNotLookedAt(Desk desk) {
        int[][] odd = {{SET, 1, 5, 88}, {MOVE, 1, 2, -3}, {GO, 3, -4, 99}, {LOAD, 1, 2, MAX}, {STORE, 1, 2, MIN},
            {CALL, 1, 2, 44}, {GIVE, 1, -1, 44}, {CHECK, 1, 9, -1}, {SAY, 1, MIN, MAX}};
        for (int i = 0; i < odd.length; i++) {
            desk.due("put " + i, desk.put(1, odd[i][0], odd[i][1], odd[i][2], odd[i][3]), i);
            desk.due("c of " + i, desk.part(0, 1, i, 3), 0);
        }
        for (int i : new int[] {2, 6, 7, 8}) {
            desk.due("b of " + i, desk.part(0, 1, i, 2), 0);
        }
    }

    private static void putRanges(Desk desk) {
        for (int i = 0; i < 4; i++) {
            desk.due("TIMES of " + i, desk.put(i, TIMES, i, 3 - i, i), 0);
            desk.due("LOAD of " + i, desk.put(i, LOAD, 3 - i, i, 0), 1);
            desk.due("STORE of " + i, desk.put(i, STORE, i, 3 - i, 0), 2);
            desk.due("IF of " + i, desk.put(i, IF, 3 - i, i, 0), 3);
        }
        for (int m = 0; m < 8; m++) {
            desk.due("CALL of " + m, desk.put(7, CALL, m % 4, m, 0), m);
        }
    }

    private static void putUnknown(Desk desk) {
        for (int kind = 0; kind < 13; kind++) {
            if (kind != GO) {
                desk.due("a = 4 of " + kind, desk.put(0, kind, 4, 0, 0), UNKNOWN);
                desk.due("a = -1 of " + kind, desk.put(0, kind, -1, 0, 0), UNKNOWN);
            }
        }
        for (int kind : new int[] {MOVE, ADD, TIMES, DIV, IF, LOAD, STORE, CALL}) {
            desk.due("b too high of " + kind, desk.put(0, kind, 0, kind == CALL ? 8 : 4, 0), UNKNOWN);
            desk.due("b = -1 of " + kind, desk.put(0, kind, 0, -1, 0), UNKNOWN);
        }
        for (int kind : new int[] {ADD, TIMES, DIV}) {
            desk.due("c = 4 of " + kind, desk.put(0, kind, 0, 0, 4), UNKNOWN);
            desk.due("c = -1 of " + kind, desk.put(0, kind, 0, 0, -1), UNKNOWN);
        }
        for (int kind : new int[] {MIN, -1, 13, MAX}) {
            desk.due("kind " + kind, desk.put(0, kind, 0, 0, 0), UNKNOWN);
        }
        desk.due("nothing was put", desk.size(0, 0), 0);
    }

    private static void putPlacesAndNumbers(Desk desk) {
        for (int p = 0; p <= 24; p += 8) {
            desk.due("GO " + p, desk.put(0, GO, p, 0, 0), p / 4);
            desk.due("IF " + p, desk.put(0, IF, 0, 0, p), p / 4 + 1);
        }
        int[] numbers = {MIN, -101, -1, 0, 1, 25, MAX};
        for (int i = 0; i < numbers.length; i++) {
            desk.due("SET " + numbers[i], desk.put(1, SET, 0, numbers[i], 0), i);
            desk.due("n", desk.part(0, 1, i, 2), numbers[i]);
        }
        for (int p : new int[] {MIN, -1, 25, MAX}) {
            desk.due("GO " + p, desk.put(0, GO, p, 0, 0), OUTSIDE);
            desk.due("IF " + p, desk.put(0, IF, 0, 0, p), OUTSIDE);
        }
        desk.due("size", desk.size(0, 0), 8);
    }

    private static void putFull(Desk desk) {
        for (int i = 0; i < 24; i++) {
            desk.add(2, row(SET, 0, i));
            desk.add(6, row(SET, 0, -i));
        }
        for (int kind = 0; kind < 13; kind++) {
            desk.due("put of kind " + kind, desk.put(2, kind, 0, 0, 0), FULL);
        }
        desk.due("put to 6", desk.put(6, SET, 0, 0, 0), FULL);
        desk.due("put to 3", desk.put(3, SET, 0, 0, 0), 0);
        desk.due("cut", desk.cut(2), 24);
        desk.due("put behind it", desk.put(2, SAY, 0, 0, 0), 0);
        desk.due("put to 6 still", desk.put(6, SET, 0, 0, 0), FULL);
        desk.due("the last of 6", desk.part(0, 6, 23, 2), -23);
    }

    private static void putLeavesTrial(Desk desk) {
        desk.root(1, true);
        desk.add(1, row(SAY, 0));
        desk.trial();
        desk.add(1, row(SAY, 1), row(SAY, 2));
        desk.add(2, row(SAY, 3));
        desk.dueTrial(1, row(SAY, 0));
        desk.due("size of 2", desk.size(1, 2), 0);
        desk.due("no place 1 there", desk.part(1, 1, 1, 0), UNKNOWN);
    }

    private static void cutTells(Desk desk) {
        desk.due("cut of none", desk.cut(7), 0);
        for (int many = 1; many <= 24; many += 7) {
            for (int i = 0; i < many; i++) {
                desk.add(7, row(SAY, 0));
            }
            desk.due("cut", desk.cut(7), many);
            desk.due("cut again", desk.cut(7), 0);
        }
        desk.due("cut 8", desk.cut(8), UNKNOWN);
        desk.due("cut -1", desk.cut(-1), UNKNOWN);
    }

    private static void cutAway(Desk desk) {
        desk.root(3, true);
        desk.add(3, row(STORE, 0, 1), row(CALL, 2, 4), row(GIVE, 0));
        desk.add(4, row(SAY, 0));
        desk.due("cut", desk.cut(3), 3);
        desk.due("size", desk.size(0, 3), 0);
        desk.due("part", desk.part(0, 3, 0, 0), UNKNOWN);
        desk.due("marks", desk.marks(3, 0), UNKNOWN);
        desk.due("it is a ROOT still", desk.used(3), 1);
        desk.due("it calls none", desk.used(4), 0);
        desk.due("it writes nothing", desk.field(1), 0);
        desk.due("the other one stays", desk.size(0, 4), 1);
        desk.dueRun(3, 5, 6, 0, 0, 0);
        desk.add(3, row(GIVE, 1));
        desk.dueRun(3, 5, 6, 0, 6, 1);
    }

    private static void cutLeavesTrial(Desk desk) {
        desk.root(1, true);
        desk.add(1, row(SAY, 0), row(GIVE, 1));
        desk.trial();
        desk.due("cut", desk.cut(1), 2);
        desk.dueTrial(1, row(SAY, 0), row(GIVE, 1));
        desk.due("run of THE TRIAL", desk.run(1, 1, 4, 5), 0);
        desk.due("given", desk.told(0), 5);
        desk.dueSaid(4);
    }

    private static void rootTells(Desk desk) {
        for (int m = 0; m < 8; m++) {
            desk.due("off as it was", desk.root(m, false), 0);
            desk.due("on", desk.root(m, true), 1);
            desk.due("on as it was", desk.root(m, true), 0);
        }
        for (int m = 0; m < 8; m++) {
            desk.due("off", desk.root(m, false), 1);
            desk.due("off as it was", desk.root(m, false), 0);
        }
        desk.due("root 8", desk.root(8, true), UNKNOWN);
        desk.due("root -1", desk.root(-1, false), UNKNOWN);
    }

    private static void rootOrNot(Desk desk) {
        desk.add(0, row(CALL, 2, 1));
        desk.root(0, true);
        desk.root(1, true);
        desk.root(0, false);
        desk.due("0 is not", desk.used(0), 0);
        desk.due("1 is", desk.used(1), 1);
        desk.root(0, true);
        desk.root(1, false);
        desk.due("1 is called", desk.used(1), 1);
        desk.root(0, false);
        desk.due("1 is not any more", desk.used(1), 0);
    }

    private static void trialTells(Desk desk) {
        desk.due("of nothing", desk.trial(), 0);
        desk.add(0, row(SAY, 0), row(SET, 2, 1));
        desk.add(6, row(SAY, 0), row(SAY, 0), row(SAY, 0));
        desk.due("none is USED", desk.trial(), 5);
        desk.root(0, true);
        desk.due("0 is", desk.trial(), 4);
        desk.root(6, true);
        desk.due("both are", desk.trial(), 1);
        desk.due("again", desk.trial(), 1);
        desk.add(0, row(GIVE, 2));
        desk.due("SET is not IDLE now", desk.trial(), 0);
        desk.cut(0);
        desk.due("0 has none, in both", desk.trial(), 0);
    }

    private static void trialAsItIs(Desk desk) {
        desk.root(0, true);
        for (int i = 0; i < 24; i++) {
            desk.add(0, row(SAY, i % 4));
        }
        desk.due("fewer", desk.trial(), 0);
        desk.renew(0, row(GIVE, 1));
        desk.due("the one before", desk.size(1, 0), 24);
        desk.due("fewer", desk.trial(), 0);
        desk.dueTrial(0, row(GIVE, 1));
        desk.due("nothing is left of the one before", desk.part(1, 0, 1, 0), UNKNOWN);
        desk.root(0, false);
        desk.due("ROOTS do not change it", desk.size(1, 0), 1);
        desk.due("fewer", desk.trial(), 1);
        desk.due("size", desk.size(1, 0), 0);
    }

    private static void runOfBoth(Desk desk) {
        desk.root(2, true);
        desk.add(2, row(LOAD, 2, 0), row(CALL, 2, 3), row(GIVE, 2));
        desk.add(3, row(LOAD, 3, 0), row(GIVE, 1));
        desk.due("fewer", desk.trial(), 2);
        desk.due("the program", desk.run(0, 2, 4, 5), 0);
        desk.due("given", desk.told(0), 5);
        desk.due("done", desk.told(1), 5);
        desk.due("THE TRIAL", desk.run(1, 2, 4, 5), 0);
        desk.due("given", desk.told(0), 5);
        desk.due("done", desk.told(1), 3);
        desk.renew(3, row(GIVE, 0));
        desk.due("THE TRIAL calls its own", desk.run(1, 2, 4, 5), 0);
        desk.due("given", desk.told(0), 5);
        desk.due("the program calls its own", desk.run(0, 2, 4, 5), 0);
        desk.due("given", desk.told(0), 4);
        desk.due("one that THE TRIAL has not", desk.run(1, 7, 4, 5), 0);
        desk.due("done", desk.told(1), 0);
    }

    private static void runEnds(Desk desk) {
        for (int m = 0; m < 5; m++) {
            desk.root(m, true);
        }
        desk.add(0, row(GIVE, 0));
        desk.add(1, row(DIV, 2, 0, 1), row(GIVE, 2));
        desk.add(2, row(CHECK, 1));
        desk.add(3, row(CALL, 2, 3));
        desk.add(4, row(GO, 0));
        desk.due("fewer", desk.trial(), 0);
        for (int which = 0; which < 2; which++) {
            for (int m = 0; m < 5; m++) {
                desk.due("run of " + m, desk.run(which, m, 7, 0), m);
            }
        }
    }

    private static void runRefused(Desk desk) {
        desk.add(0, row(GIVE, 0));
        desk.due("a RUN", desk.run(0, 0, 8, 8), 0);
        desk.due("STATE", desk.run(1, 0, 9, 9), STATE);
        desk.due("OUTSIDE 2", desk.run(2, 0, 9, 9), OUTSIDE);
        desk.due("OUTSIDE -1", desk.run(-1, 0, 9, 9), OUTSIDE);
        desk.due("UNKNOWN 8", desk.run(0, 8, 9, 9), UNKNOWN);
        desk.due("UNKNOWN -1", desk.run(1, -1, 9, 9), UNKNOWN);
        desk.due("that RUN is the latest", desk.told(0), 8);
        desk.due("trial", desk.trial(), 1);
        desk.due("no STATE any more", desk.run(1, 0, 9, 9), 0);
        desk.due("OUTSIDE 2", desk.run(2, 0, 9, 9), OUTSIDE);
        desk.due("this one gave", desk.told(0), 0);
    }

    private static void toldEach(Desk desk) {
        desk.add(0, row(STORE, 0, 0), row(STORE, 1, 1), row(ADD, 2, 0, 1), row(STORE, 2, 2), row(TIMES, 3, 0, 1),
                row(STORE, 3, 3), row(SAY, 0), row(SAY, 0), row(CALL, 2, 1), row(GIVE, 3));
        desk.add(1, row(SAY, 1));
        desk.due("run", desk.run(0, 0, -6, 7), 0);
        long[] want = {-42, 11, 3, -6, 7, 1, -42};
        for (int what = 0; what < 7; what++) {
            desk.due("told " + what, desk.told(what), want[what]);
        }
        desk.due("told 7", desk.told(7), OUTSIDE);
        desk.due("told -1", desk.told(-1), OUTSIDE);
    }

    private static void toldOtherwise(Desk desk) {
        desk.add(0, row(SAY, 0), row(STORE, 1, 3), row(DIV, 2, 0, 1), row(CHECK, 2), row(GIVE, 2));
        desk.add(1, row(STORE, 0, 0), row(CALL, 2, 0), row(GIVE, 2));
        desk.add(2, row(STORE, 0, 0), row(CALL, 2, 2));
        // x, y; how it ends, then told 0, 1, 2, 3, 6.
        int[][] each = {{6, 0, 1, 0, 5, 1, 6, 0}, {1, 2, 2, 0, 6, 1, 1, 2}, {6, 2, 0, 3, 8, 1, 6, 2}};
        for (int[] one : each) {
            desk.due("how it ends", desk.run(0, 1, one[0], one[1]), one[2]);
            desk.due("told 0", desk.told(0), one[3]);
            desk.due("told 1", desk.told(1), one[4]);
            desk.due("told 2", desk.told(2), one[5]);
            desk.due("told 3", desk.told(3), one[6]);
            desk.due("told 6", desk.told(6), one[7]);
        }
        desk.due("how it ends", desk.run(0, 2, 9, 9), 3);
        desk.due("told 0", desk.told(0), 0);
        desk.due("told 1", desk.told(1), 16);
        desk.due("told 3", desk.told(3), 9);
    }

    private static void toldLatest(Desk desk) {
        desk.root(0, true);
        desk.add(0, row(STORE, 0, 1), row(SAY, 0), row(LOAD, 2, 0), row(GIVE, 0));
        desk.trial();
        desk.run(0, 0, 5, 5);
        desk.run(1, 0, 6, 6);
        desk.due("given", desk.told(0), 6);
        desk.due("done", desk.told(1), 3);
        desk.due("FIELD 1", desk.told(4), 6);
        desk.cut(0);
        desk.add(1, row(SAY, 0));
        desk.root(1, true);
        desk.trial();
        desk.due("given, as before", desk.told(0), 6);
        desk.due("said, as before", desk.said(0), 6);
        desk.run(0, 2, 1, 1);
        for (int what = 0; what < 7; what++) {
            desk.due("told " + what + " of one that did nothing", desk.told(what), 0);
        }
        desk.due("nothing was said", desk.said(0), 0);
    }

    private static void toldWithout(Desk desk) {
        for (int time = 0; time < 2; time++) {
            for (int what = 0; what < 7; what++) {
                desk.due("told " + what, desk.told(what), 0);
            }
            for (int what : new int[] {MIN, -1, 7, MAX}) {
                desk.due("told " + what, desk.told(what), OUTSIDE);
            }
            desk.add(0, row(STORE, 0, 0), row(STORE, 0, 3), row(SAY, 0), row(GIVE, 0));
            desk.run(0, 0, 4, 4);
            desk.due("told 0", desk.told(0), 4);
            desk.due("clear", desk.clear(), 4);
        }
    }

    private static void saidEach(Desk desk) {
        desk.add(0, row(SAY, 1), row(CALL, 2, 1), row(SAY, 2), row(SET, 2, MIN), row(SAY, 2), row(CHECK, 3));
        desk.add(1, row(ADD, 2, 0, 1), row(SAY, 2), row(GIVE, 0));
        desk.due("run", desk.run(0, 0, 3, 4), 2);
        desk.dueSaid(4, 7, 3, MIN);
        desk.due("run", desk.run(0, 1, MAX, -1), 0);
        desk.dueSaid(MAX - 1);
        desk.due("nothing of the one before", desk.said(1), 0);
        desk.due("nothing of the one before", desk.said(3), 0);
    }

    private static void saidSixty(Desk desk) {
        desk.add(0, row(SET, 3, 1), row(ADD, 2, 2, 3), row(SAY, 2), row(IF, 2, 0, 1));
        desk.due("run", desk.run(0, 0, 75, 0), 0);
        desk.due("how often", desk.told(2), 75);
        for (int i = 0; i < 75; i++) {
            desk.due("said " + i, desk.said(i), i < 60 ? i + 1 : 0);
        }
        desk.run(0, 0, 60, 0);
        desk.due("how often", desk.told(2), 60);
        desk.due("said 59", desk.said(59), 60);
        desk.run(0, 0, 59, 0);
        desk.due("said 58", desk.said(58), 59);
        desk.due("said 59", desk.said(59), 0);
        desk.run(0, 0, 600, 0);
        desk.due("how often", desk.told(2), 600);
        desk.due("said 59", desk.said(59), 60);
        desk.due("said 60", desk.said(60), 0);
    }

    private static void saidNone(Desk desk) {
        desk.add(0, row(SAY, 0));
        desk.run(0, 0, 5, 5);
        for (int i : new int[] {MIN, -1, 1, 2, 59, 60, 61, MAX}) {
            desk.due("said " + i, desk.said(i), 0);
        }
        desk.due("said 0", desk.said(0), 5);
    }

    private static void marksTogether(Desk desk) {
        desk.add(0, row(SET, 2, 4), row(SET, 3, 4), row(IF, 3, 2, 9), row(CHECK, 2), row(LOAD, 3, 0), row(IF, 2, 0, 7),
                row(GIVE, 0), row(SET, 0, 9), row(IF, 2, 0, 10), row(SAY, 1), row(DIV, 1, 1, 2));
        desk.dueMarks(0, 1, 1, 5, 17, 9, 1, 1, 1, 3, 0, 9);
        desk.due("THE END", desk.marks(0, 11), UNKNOWN);
        desk.due("place -1", desk.marks(0, -1), UNKNOWN);
        desk.due("MEMBER 8", desk.marks(8, 0), UNKNOWN);
        desk.due("MEMBER -1", desk.marks(-1, 0), UNKNOWN);
        desk.due("an empty one", desk.marks(1, 0), UNKNOWN);
    }

    private static void marksAsItIs(Desk desk) {
        desk.add(0, row(SET, 2, 1));
        desk.dueMarks(0, 9);
        desk.add(0, row(CHECK, 2));
        desk.dueMarks(0, 1, 17);
        desk.add(0, row(IF, 0, 1, 1));
        desk.dueMarks(0, 1, 17, 1);
        desk.add(0, row(SET, 2, 0), row(IF, 1, 0, 1));
        desk.dueMarks(0, 1, 1, 1, 1, 1);
        desk.renew(0, row(IF, 0, 1, 2), row(GIVE, 0));
        desk.dueMarks(0, 1, 1);
        desk.due("an old place", desk.marks(0, 2), UNKNOWN);
    }

    private static void knownEach(Desk desk) {
        desk.add(0, row(SET, 2, -7), row(MOVE, 0, 2), row(LOAD, 3, 0), row(GIVE, 2), row(SAY, 0));
        desk.dueKnown(0, 0, ANY, ANY, 0, 0);
        desk.dueKnown(0, 1, ANY, ANY, -7, 0);
        desk.dueKnown(0, 2, -7, ANY, -7, 0);
        desk.dueKnown(0, 3, -7, ANY, -7, ANY);
        desk.dueKnown(0, 4, LOST, LOST, LOST, LOST);
        desk.add(0, row(SAY, 0));
        desk.dueKnown(0, 5, LOST, LOST, LOST, LOST);
    }

    private static void knownNumbers(Desk desk) {
        for (int n : new int[] {MIN, -101, -1, 0, 1, 1000000000, MAX}) {
            desk.renew(7, row(SET, 1, n), row(SAY, 1));
            desk.dueKnown(7, 1, ANY, n, 0, 0);
        }
    }

    private static void knownUnknown(Desk desk) {
        desk.add(0, row(SET, 2, 3), row(SAY, 0));
        for (int no : new int[] {MIN, -1, 8, MAX}) {
            desk.due("MEMBER " + no, desk.known(no, 0, 0), UNKNOWN);
            desk.due("place " + no, desk.known(0, no, 0), UNKNOWN);
            desk.due("register " + no, desk.known(0, 0, no), UNKNOWN);
        }
        desk.due("register 4", desk.known(0, 1, 4), UNKNOWN);
        desk.due("register 3", desk.known(0, 1, 3), 0);
        desk.due("THE END", desk.known(0, 2, 2), UNKNOWN);
        desk.due("beyond it", desk.known(0, 3, 2), UNKNOWN);
        desk.due("THE END of an empty one", desk.known(1, 0, 2), UNKNOWN);
    }

    private static void readEach(Desk desk) {
        desk.add(0, row(IF, 0, 1, 3), row(SAY, 2), row(GIVE, 0), row(STORE, 3, 1), row(GO, 6), row(SAY, 1), row(SET, 1, 1),
                row(SAY, 1));
        desk.dueRead(0, 0, 1, 0, 1, 1);
        desk.dueRead(0, 1, 1, 0, 0, 0);
        desk.dueRead(0, 4, 0, 0, 0, 0);
        desk.dueRead(0, 5, 0, 0, 0, 0);
        desk.dueRead(0, 6, 0, 1, 0, 0);
        for (int no : new int[] {MIN, -1, 8, MAX}) {
            desk.due("MEMBER " + no, desk.read(no, 0, 0), UNKNOWN);
            desk.due("place " + no, desk.read(0, no, 0), UNKNOWN);
            desk.due("register " + no, desk.read(0, 0, no), UNKNOWN);
        }
        desk.due("register 4", desk.read(0, 0, 4), UNKNOWN);
        desk.renew(1, row(GIVE, 0), row(SAY, 3), row(SAY, 2));
        desk.dueRead(1, 1, 0, 0, 0, 0);
    }

    private static void usedEach(Desk desk) {
        desk.add(4, row(CALL, 0, 5));
        desk.due("used 5", desk.used(5), 0);
        desk.root(4, true);
        desk.due("used 4", desk.used(4), 1);
        desk.due("used 5", desk.used(5), 1);
        desk.renew(4, row(GIVE, 0), row(CALL, 0, 5));
        desk.due("used 5", desk.used(5), 0);
        for (int m : new int[] {MIN, -1, 8, MAX}) {
            desk.due("used " + m, desk.used(m), UNKNOWN);
        }
    }

    private static void fieldEach(Desk desk) {
        desk.root(4, true);
        for (int f = 0; f < 4; f++) {
            desk.due("field " + f, desk.field(f), 0);
            desk.renew(4, row(LOAD, 0, f));
            desk.due("READ " + f, desk.field(f), 1);
            desk.renew(4, row(STORE, 0, f));
            desk.due("WRITTEN " + f, desk.field(f), 2);
            desk.add(4, row(LOAD, 0, f));
            desk.due("both " + f, desk.field(f), 3);
            desk.cut(4);
        }
        for (int f : new int[] {MIN, -1, 4, MAX}) {
            desk.due("field " + f, desk.field(f), UNKNOWN);
        }
    }

    private static void doubledLeast(Desk desk) {
        for (int m : new int[] {1, 3, 5, 7}) {
            desk.add(m, row(SET, m < 4 ? 2 : 3, 9), row(GIVE, m < 4 ? 2 : 3));
        }
        int[] want = {0, 1, 0, 1, 0, 1, 0, 1};
        for (int m = 0; m < 8; m++) {
            desk.due("doubled " + m, desk.doubled(m), want[m]);
        }
        desk.add(1, row(SAY, 0));
        desk.due("itself", desk.doubled(1), 1);
        desk.due("the next", desk.doubled(7), 3);
        desk.add(0, row(SAY, 0));
        desk.due("the least empty one", desk.doubled(4), 2);
        for (int m : new int[] {MIN, -1, 8, MAX}) {
            desk.due("doubled " + m, desk.doubled(m), UNKNOWN);
        }
    }

    private static void sizeOfBoth(Desk desk) {
        desk.root(0, true);
        desk.add(0, row(LOAD, 2, 0), row(SAY, 0), row(CHECK, 0));
        desk.trial();
        desk.due("in the program", desk.size(0, 0), 3);
        desk.due("in THE TRIAL", desk.size(1, 0), 2);
        desk.add(0, row(SAY, 2));
        desk.due("in the program", desk.size(0, 0), 4);
        desk.due("in THE TRIAL", desk.size(1, 0), 2);
        desk.trial();
        desk.due("in THE TRIAL now", desk.size(1, 0), 4);
        for (int no : new int[] {MIN, -1, 2, MAX}) {
            desk.due("which " + no, desk.size(no, 0), OUTSIDE);
        }
        desk.due("MEMBER 8", desk.size(0, 8), UNKNOWN);
        desk.due("MEMBER -1", desk.size(1, -1), UNKNOWN);
    }

    private static void partEach(Desk desk) {
        desk.add(5, row(TIMES, 3, 2, 1), row(SET, 1, MIN));
        int[] first = {TIMES, 3, 2, 1};
        int[] then = {SET, 1, MIN, 0};
        for (int what = 0; what < 4; what++) {
            desk.due("part " + what, desk.part(0, 5, 0, what), first[what]);
            desk.due("part " + what, desk.part(0, 5, 1, what), then[what]);
        }
        desk.trial();
        for (int no : new int[] {MIN, -1, 8, MAX}) {
            desk.due("MEMBER " + no, desk.part(0, no, 0, 0), UNKNOWN);
            desk.due("which " + no, desk.part(no, 5, 0, 0), OUTSIDE);
            desk.due("what " + no, desk.part(0, 5, 0, no), OUTSIDE);
            desk.due("place " + no, desk.part(0, 5, no, 0), UNKNOWN);
        }
        desk.due("which 2", desk.part(2, 5, 0, 0), OUTSIDE);
        desk.due("what 4", desk.part(0, 5, 0, 4), OUTSIDE);
        desk.due("place 2", desk.part(0, 5, 2, 0), UNKNOWN);
        desk.due("place 0 in THE TRIAL", desk.part(1, 5, 0, 0), UNKNOWN);
    }

    private static void partNoSuch(Desk desk) {
        for (int kind = 0; kind < 13; kind++) {
            desk.due("put", desk.put(0, kind, 3, 3, 3), kind);
        }
        int[] has = {2, 2, 3, 3, 3, 3, 1, 2, 2, 2, 1, 1, 1};
        for (int kind = 0; kind < 13; kind++) {
            for (int what = 1; what < 4; what++) {
                desk.due("part " + what + " of " + kind, desk.part(0, 0, kind, what), what <= has[kind] ? 3 : 0);
            }
        }
    }

    private static void partOfTrial(Desk desk) {
        desk.root(5, true);
        desk.add(5, row(SET, 2, 8), row(IF, 3, 2, 3), row(SAY, 3), row(ADD, 0, 1, 2), row(GIVE, 0));
        desk.due("fewer", desk.trial(), 1);
        desk.dueTrial(5, row(SET, 2, 8), row(GO, 2), row(ADD, 0, 1, 2), row(GIVE, 0));
        desk.due("THE END there", desk.part(1, 5, 4, 0), UNKNOWN);
        desk.due("b, c of the IF", desk.part(0, 5, 1, 3), 3);
        desk.cut(5);
        desk.due("behind a cut", desk.part(1, 5, 3, 0), GIVE);
        desk.due("in the program", desk.part(0, 5, 3, 0), UNKNOWN);
    }

    private static void clearTells(Desk desk) {
        desk.due("of nothing", desk.clear(), 0);
        for (int m = 0; m < 8; m++) {
            for (int i = 0; i <= m; i++) {
                desk.add(m, row(SAY, 0));
            }
        }
        desk.due("of all", desk.clear(), 36);
        desk.due("again", desk.clear(), 0);
        for (int m = 0; m < 8; m++) {
            desk.due("put to " + m, desk.put(m, SAY, 1, 0, 0), 0);
        }
        desk.due("of all", desk.clear(), 8);
    }

    private static void clearAll(Desk desk) {
        for (int m = 0; m < 8; m += 7) {
            desk.add(m, row(SAY, 0), row(STORE, 0, 0), row(STORE, 1, 3), row(GIVE, 1));
            desk.root(m, true);
        }
        desk.trial();
        desk.run(1, 7, 5, 6);
        desk.due("clear", desk.clear(), 8);
        for (int m = 0; m < 8; m++) {
            desk.due("size of " + m, desk.size(0, m), 0);
            desk.due("used " + m, desk.used(m), 0);
            desk.due("THE TRIAL's " + m, desk.size(1, m), STATE);
        }
        for (int what = 0; what < 7; what++) {
            desk.due("told " + what, desk.told(what), 0);
        }
        desk.due("said 0", desk.said(0), 0);
        desk.due("field 0", desk.field(0), 0);
        desk.add(0, row(GIVE, 1));
        desk.due("none is USED", desk.trial(), 1);
        desk.due("and a RUN", desk.run(0, 0, 5, 6), 0);
        desk.due("gives", desk.told(0), 6);
    }
}
