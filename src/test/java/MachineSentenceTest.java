/** Part 1 of Terms, sentence by sentence: MEMBERS, PLACES, REGISTERS, FIELDS, KINDS, and a RUN. */
public final class MachineSentenceTest extends Sentences {
    public static void main(String[] args) {
        play("MEMBERS 0 .. 7 have INSTRUCTIONS", SPARE, MachineSentenceTest::members);
        play("24 at most, at PLACES 0, 1, ..", 0, MachineSentenceTest::places);
        play("none at first", 0, MachineSentenceTest::noneAtFirst);
        play("the place behind the last one is THE END", RUN, MachineSentenceTest::theEnd);
        play("all beyond is THE END", RUN, MachineSentenceTest::beyondTheEnd);
        play("registers 0 and 1 as given, 2 and 3 are 0", RUN, MachineSentenceTest::registersAtFirst);
        play("each MEMBER that is called has REGISTERS", RUN, MachineSentenceTest::registersOfEach);
        play("REGISTERS are ints", RUN, MachineSentenceTest::registersAreInts);
        play("FIELDS are common to all", RUN, MachineSentenceTest::fieldsAreCommon);
        play("SET a n", RUN, MachineSentenceTest::set);
        play("MOVE a b", RUN, MachineSentenceTest::move);
        play("ADD a b c", RUN, MachineSentenceTest::addition);
        play("TIMES a b c", RUN, MachineSentenceTest::times);
        play("DIV a b c", RUN, MachineSentenceTest::division);
        play("IF a b p", RUN, MachineSentenceTest::ifBelow);
        play("GO p", RUN, MachineSentenceTest::go);
        play("LOAD a f", RUN, MachineSentenceTest::load);
        play("STORE a f", RUN, MachineSentenceTest::store);
        play("CALL is given registers 0 and 1", RUN, MachineSentenceTest::callGives);
        play("CALL: a becomes what it gives", RUN, MachineSentenceTest::callTakes);
        play("GIVE a", RUN, MachineSentenceTest::give);
        play("CHECK a", RUN, MachineSentenceTest::check);
        play("SAY a", RUN, MachineSentenceTest::say);
        play("else the next place comes", RUN, MachineSentenceTest::nextPlace);
        play("THE END ends it, and gives 0", RUN, MachineSentenceTest::endGivesNothing);
        play("a RUN: FIELDS are 0", RUN, MachineSentenceTest::fieldsAreNothing);
        play("a RUN: given x and y", RUN | SPARE, MachineSentenceTest::givenBoth);
        play("0 as it has given", RUN, MachineSentenceTest::endsAsGiven);
        play("1 DIV by 0", RUN, MachineSentenceTest::endsByDivision);
        play("2 CHECK of a register that is 0", RUN, MachineSentenceTest::endsByCheck);
        play("3 the 9th MEMBER within one another", RUN | SPARE, MachineSentenceTest::endsByDepth);
        play("3 is of those within one another alone", RUN, MachineSentenceTest::manyCalls);
        play("4 the 2001st INSTRUCTION", RUN, MachineSentenceTest::endsByLength);
        play("4 ahead of what it does", RUN, MachineSentenceTest::aheadOfWhatItDoes);
        play("4 counts those of all MEMBERS", RUN, MachineSentenceTest::lengthOfAll);
        checks.end("MachineSentenceTest");
    }

    private static void members(Desk desk) {
        for (int m = 0; m < 8; m++) {
            desk.due("put to " + m, desk.put(m, SET, 0, m, 0), 0);
        }
        for (int m = 0; m < 8; m++) {
            desk.due("size of " + m, desk.size(0, m), 1);
            desk.due("its own INSTRUCTION", desk.part(0, m, 0, 2), m);
        }
        desk.due("put to -1", desk.put(-1, SET, 0, 0, 0), UNKNOWN);
        desk.due("put to 8", desk.put(8, SET, 0, 0, 0), UNKNOWN);
    }

    private static void places(Desk desk) {
        for (int place = 0; place < 24; place++) {
            desk.due("put at " + place, desk.put(7, SET, place % 4, place * 7, 0), place);
        }
        desk.due("the 25th", desk.put(7, SET, 0, 1, 0), FULL);
        desk.due("size", desk.size(0, 7), 24);
        for (int place = 0; place < 24; place++) {
            desk.due("a of " + place, desk.part(0, 7, place, 1), place % 4);
            desk.due("b of " + place, desk.part(0, 7, place, 2), place * 7);
        }
    }

    private static void noneAtFirst(Desk desk) {
        for (int m = 0; m < 8; m++) {
            desk.due("size of " + m, desk.size(0, m), 0);
            desk.due("no place 0 of " + m, desk.part(0, m, 0, 0), UNKNOWN);
        }
    }

    private static void theEnd(Desk desk) {
        desk.add(0, row(GO, 2), row(GIVE, 0));
        desk.dueRun(0, 5, 5, 0, 0, 1);
        desk.due("marks there", desk.marks(0, 2), UNKNOWN);
        desk.due("known there", desk.known(0, 2, 0), UNKNOWN);
        desk.due("read there", desk.read(0, 2, 0), UNKNOWN);
        desk.due("part there", desk.part(0, 0, 2, 0), UNKNOWN);
        desk.add(0, row(GIVE, 1));
        desk.due("it has moved", desk.marks(0, 2), 1);
        desk.dueRun(0, 5, 6, 0, 6, 2);
    }

    private static void beyondTheEnd(Desk desk) {
        for (int p : new int[] {2, 3, 13, 23, 24}) {
            desk.renew(1, row(GO, p), row(GIVE, 0));
            desk.dueRun(1, 5, 5, 0, 0, 1);
            desk.renew(1, row(IF, 0, 1, p), row(GIVE, 0));
            desk.dueRun(1, 5, 6, 0, 0, 1);
            desk.dueRun(1, 5, 5, 0, 5, 2);
        }
        for (int place : new int[] {2, 3, 23, 24, 25, MAX}) {
            desk.due("marks of " + place, desk.marks(1, place), UNKNOWN);
        }
    }

    private static void registersAtFirst(Desk desk) {
        desk.add(2, row(SAY, 0), row(SAY, 1), row(SAY, 2), row(SAY, 3));
        desk.dueRun(2, 8, -9, 0, 0, 4);
        desk.dueSaid(8, -9, 0, 0);
        desk.dueRun(2, MIN, MAX, 0, 0, 4);
        desk.dueSaid(MIN, MAX, 0, 0);
    }

    private static void registersOfEach(Desk desk) {
        desk.add(0, row(SET, 2, 21), row(SET, 3, 31), row(CALL, 1, 1), row(SAY, 0), row(SAY, 1), row(SAY, 2),
                row(SAY, 3), row(CALL, 1, 1));
        desk.add(1, row(SAY, 0), row(SAY, 1), row(SAY, 2), row(SAY, 3), row(SET, 0, 5), row(SET, 1, 6),
                row(SET, 2, 7), row(SET, 3, 8), row(GIVE, 3));
        desk.dueRun(0, 3, 4, 0, 0, 26);
        desk.dueSaid(3, 4, 0, 0, 3, 8, 21, 31, 3, 8, 0, 0);
    }

    private static void registersAreInts(Desk desk) {
        desk.add(0, row(ADD, 2, 0, 1), row(SAY, 2), row(TIMES, 3, 0, 0), row(SAY, 3), row(GIVE, 2));
        desk.dueRun(0, MAX, 1, 0, MIN, 5);
        desk.dueSaid(MIN, 1);
        desk.dueRun(0, MIN, -1, 0, MAX, 5);
        desk.dueSaid(MAX, 0);
    }

    private static void fieldsAreCommon(Desk desk) {
        for (int f = 0; f < 4; f++) {
            desk.add(0, row(STORE, f % 2, f));
        }
        desk.add(0, row(CALL, 2, 1), row(LOAD, 3, 2), row(GIVE, 3));
        for (int f = 0; f < 4; f++) {
            desk.add(1, row(LOAD, 2, f), row(SAY, 2));
        }
        desk.add(1, row(SET, 2, 99), row(STORE, 2, 2));
        desk.dueRun(0, 7, -8, 0, 99, 17);
        desk.dueSaid(7, -8, 7, -8);
        int[] want = {7, -8, 99, -8};
        for (int f = 0; f < 4; f++) {
            desk.due("FIELD " + f, desk.told(3 + f), want[f]);
        }
    }

    private static void set(Desk desk) {
        for (int a = 0; a < 4; a++) {
            desk.renew(3, row(SET, a, -40 - a), row(SAY, 0), row(SAY, 1), row(SAY, 2), row(SAY, 3));
            desk.dueRun(3, 1, 2, 0, 0, 5);
            desk.dueSaid(a == 0 ? -40 : 1, a == 1 ? -41 : 2, a == 2 ? -42 : 0, a == 3 ? -43 : 0);
        }
        for (int n : new int[] {MIN, 0, MAX}) {
            desk.renew(3, row(SET, 1, n), row(GIVE, 1));
            desk.dueRun(3, 5, 5, 0, n, 2);
        }
    }

    private static void move(Desk desk) {
        desk.add(3, row(MOVE, 2, 0), row(MOVE, 0, 1), row(MOVE, 1, 3), row(MOVE, 3, 3), row(SAY, 0), row(SAY, 1),
                row(SAY, 2), row(SAY, 3));
        desk.dueRun(3, 11, 12, 0, 0, 8);
        desk.dueSaid(12, 0, 11, 0);
    }

    private static void addition(Desk desk) {
        desk.add(4, row(ADD, 2, 0, 1), row(ADD, 0, 0, 0), row(ADD, 1, 2, 1), row(SAY, 0), row(SAY, 1), row(GIVE, 2));
        desk.dueRun(4, 3, 4, 0, 7, 6);
        desk.dueSaid(6, 11);
        desk.dueRun(4, MAX, MAX, 0, -2, 6);
        desk.dueSaid(-2, MAX - 2);
    }

    private static void times(Desk desk) {
        desk.add(5, row(TIMES, 2, 0, 1), row(TIMES, 0, 0, 0), row(TIMES, 1, 2, 1), row(SAY, 0), row(SAY, 1),
                row(GIVE, 2));
        desk.dueRun(5, 3, -4, 0, -12, 6);
        desk.dueSaid(9, 48);
        desk.dueRun(5, 65536, 65537, 0, 65536, 6);
        desk.dueSaid(0, 65536);
        desk.dueRun(5, MIN, -1, 0, MIN, 6);
    }

    private static void division(Desk desk) {
        desk.add(0, row(DIV, 2, 0, 1), row(GIVE, 2));
        int[][] each = {{7, 2, 3}, {-7, 2, -3}, {7, -2, -3}, {-7, -2, 3}, {0, 5, 0}, {MIN, -1, MIN}, {MIN, MAX, -1},
            {MAX, MIN, 0}};
        for (int[] one : each) {
            desk.dueRun(0, one[0], one[1], 0, one[2], 2);
        }
        desk.renew(0, row(DIV, 1, 1, 1), row(DIV, 0, 0, 1), row(GIVE, 0));
        desk.dueRun(0, 9, 3, 0, 9, 3);
    }

    private static void ifBelow(Desk desk) {
        desk.add(0, row(IF, 0, 1, 3), row(SAY, 0), row(GIVE, 0), row(SAY, 1), row(GIVE, 1));
        int[][] below = {{1, 2}, {-2, -1}, {MIN, MAX}, {-1, 0}, {MAX - 1, MAX}, {MIN, MIN + 1}};
        for (int[] two : below) {
            desk.dueRun(0, two[0], two[1], 0, two[1], 3);
        }
        int[][] notBelow = {{2, 1}, {2, 2}, {MAX, MIN}, {MIN, MIN}, {0, -1}};
        for (int[] two : notBelow) {
            desk.dueRun(0, two[0], two[1], 0, two[0], 3);
        }
        desk.renew(0, row(ADD, 0, 0, 1), row(IF, 0, 2, 0), row(GIVE, 0));
        desk.dueRun(0, -9, 4, 0, 3, 7);
    }

    private static void go(Desk desk) {
        desk.add(1, row(GO, 3), row(SAY, 0), row(GIVE, 0), row(SAY, 1), row(GO, 1));
        desk.dueRun(1, 6, 7, 0, 6, 5);
        desk.dueSaid(7, 6);
    }

    private static void load(Desk desk) {
        for (int f = 0; f < 4; f++) {
            desk.renew(2, row(STORE, 0, f), row(LOAD, 3 - f, f), row(SAY, 3 - f), row(LOAD, 0, (f + 1) % 4), row(GIVE, 0));
            desk.dueRun(2, 50 + f, 1, 0, 0, 5);
            desk.dueSaid(50 + f);
            desk.due("FIELD " + f + " is as before", desk.told(3 + f), 50 + f);
        }
    }

    private static void store(Desk desk) {
        for (int f = 0; f < 4; f++) {
            desk.renew(2, row(STORE, 1, f), row(GIVE, 1));
            desk.dueRun(2, 1, MIN + f, 0, MIN + f, 2);
            for (int g = 0; g < 4; g++) {
                desk.due("FIELD " + g, desk.told(3 + g), g == f ? MIN + f : 0);
            }
        }
        desk.renew(2, row(STORE, 0, 0), row(STORE, 1, 0));
        desk.dueRun(2, 3, 4, 0, 0, 2);
        desk.due("the later one", desk.told(3), 4);
    }

    private static void callGives(Desk desk) {
        desk.add(0, row(SET, 2, 30), row(ADD, 0, 0, 2), row(CALL, 3, 7), row(GIVE, 3));
        desk.add(7, row(SAY, 0), row(SAY, 1), row(CALL, 3, 5));
        desk.add(5, row(SAY, 1), row(SAY, 0), row(SAY, 2), row(SAY, 3));
        desk.dueRun(0, 1, 2, 0, 0, 11);
        desk.dueSaid(31, 2, 2, 31, 0, 0);
    }

    private static void callTakes(Desk desk) {
        desk.add(1, row(TIMES, 2, 0, 1), row(GIVE, 2));
        for (int a = 0; a < 4; a++) {
            desk.renew(0, row(CALL, a, 1), row(SAY, 0), row(SAY, 1), row(SAY, 2), row(SAY, 3));
            desk.dueRun(0, 6, 7, 0, 0, 7);
            desk.dueSaid(a == 0 ? 42 : 6, a == 1 ? 42 : 7, a == 2 ? 42 : 0, a == 3 ? 42 : 0);
        }
        desk.renew(0, row(SET, 3, 9), row(CALL, 3, 4), row(GIVE, 3));
        desk.dueRun(0, 6, 7, 0, 0, 3);
    }

    private static void give(Desk desk) {
        for (int a = 0; a < 4; a++) {
            desk.renew(0, row(SET, 2, 5), row(SET, 3, 6), row(GIVE, a), row(SAY, 0), row(GIVE, 1));
            desk.dueRun(0, 3, 4, 0, 3 + a, 3);
            desk.due("nothing comes behind it", desk.told(2), 0);
        }
        desk.renew(0, row(CALL, 2, 1), row(GIVE, 2));
        desk.add(1, row(GIVE, 1), row(SAY, 0));
        desk.dueRun(0, 3, MAX, 0, MAX, 3);
    }

    private static void check(Desk desk) {
        for (int a = 0; a < 4; a++) {
            desk.renew(0, row(SET, 2, 5), row(SET, 3, 6), row(CHECK, a), row(GIVE, 1));
            desk.dueRun(0, -1, MIN, 0, MIN, 4);
            desk.renew(0, row(CHECK, a), row(GIVE, 1));
            desk.dueRun(0, a == 0 ? 0 : 1, a == 1 ? 0 : 1, 2, 0, 1);
        }
    }

    private static void say(Desk desk) {
        desk.add(0, row(SET, 2, -5), row(SET, 3, 6));
        for (int a = 3; a >= 0; a--) {
            desk.add(0, row(SAY, a), row(SAY, a));
        }
        desk.dueRun(0, MIN, MAX, 0, 0, 10);
        desk.dueSaid(6, 6, -5, -5, MAX, MAX, MIN, MIN);
    }

    private static void nextPlace(Desk desk) {
        desk.add(0, row(SET, 2, 1), row(MOVE, 3, 2), row(ADD, 3, 3, 2), row(TIMES, 3, 3, 3), row(DIV, 3, 3, 2),
                row(IF, 3, 2, 0), row(STORE, 3, 1), row(LOAD, 2, 1), row(CALL, 0, 5), row(CHECK, 2), row(SAY, 2),
                row(GIVE, 2));
        desk.dueRun(0, 7, 7, 0, 4, 12);
        desk.dueSaid(4);
    }

    private static void endGivesNothing(Desk desk) {
        desk.dueRun(4, 5, 6, 0, 0, 0);
        desk.add(4, row(SET, 2, 7), row(SET, 3, 8), row(STORE, 0, 0));
        desk.dueRun(4, 5, 6, 0, 0, 3);
        desk.add(3, row(MOVE, 2, 0), row(CALL, 2, 4), row(SAY, 2), row(GIVE, 0));
        desk.dueRun(3, 5, 6, 0, 5, 7);
        desk.dueSaid(0);
    }

    private static void fieldsAreNothing(Desk desk) {
        for (int f = 0; f < 4; f++) {
            desk.add(0, row(LOAD, 2, f), row(SAY, 2), row(STORE, 0, f));
        }
        for (int time = 1; time < 4; time++) {
            desk.dueRun(0, time, 0, 0, 0, 12);
            desk.dueSaid(0, 0, 0, 0);
            desk.due("what is stored", desk.told(6), time);
        }
        desk.renew(0);
        desk.dueRun(0, 1, 1, 0, 0, 0);
        for (int f = 0; f < 4; f++) {
            desk.due("FIELD " + f + " of a RUN that stores nothing", desk.told(3 + f), 0);
        }
    }

    private static void givenBoth(Desk desk) {
        for (int m = 0; m < 8; m++) {
            desk.add(m, row(ADD, 0, 0, 0), row(ADD, 0, 0, 1), row(GIVE, 0));
            desk.dueRun(m, 100 + m, 7, 0, 207 + 2 * m, 3);
        }
    }

    private static void endsAsGiven(Desk desk) {
        desk.add(0, row(GIVE, 0));
        for (int x : new int[] {MIN, -104, -1, 0, 1, 4, MAX}) {
            desk.dueRun(0, x, 1, 0, x, 1);
        }
    }

    private static void endsByDivision(Desk desk) {
        desk.add(0, row(SAY, 0), row(STORE, 0, 1), row(DIV, 2, 0, 1), row(SAY, 0), row(GIVE, 0));
        desk.dueRun(0, 5, 0, 1, 0, 3);
        desk.dueSaid(5);
        desk.due("what was stored", desk.told(4), 5);
        desk.dueRun(0, 0, 0, 1, 0, 3);
        desk.dueRun(0, MIN, 0, 1, 0, 3);
        desk.dueRun(0, 0, 1, 0, 0, 5);
        desk.add(1, row(CALL, 2, 0), row(SAY, 1), row(GIVE, 1));
        desk.dueRun(1, 5, 0, 1, 0, 4);
        desk.dueSaid(5);
    }

    private static void endsByCheck(Desk desk) {
        desk.add(0, row(CHECK, 0), row(SAY, 1), row(CHECK, 1), row(SAY, 0), row(GIVE, 0));
        desk.dueRun(0, 0, 5, 2, 0, 1);
        desk.dueRun(0, 5, 0, 2, 0, 3);
        desk.dueSaid(0);
        desk.dueRun(0, -1, MIN, 0, -1, 5);
        desk.add(1, row(CALL, 2, 0), row(SAY, 1));
        desk.dueRun(1, 0, 5, 2, 0, 2);
        desk.due("nothing is said behind it", desk.told(2), 0);
    }

    private static void endsByDepth(Desk desk) {
        for (int m = 0; m < 7; m++) {
            desk.add(m, row(SAY, 0), row(CALL, 2, m + 1), row(GIVE, 2));
        }
        desk.add(7, row(GIVE, 1));
        desk.dueRun(0, 3, 4, 0, 4, 22);
        desk.due("all but the last say it", desk.told(2), 7);
        desk.renew(7, row(CALL, 2, 6), row(SAY, 0));
        desk.dueRun(0, 3, 4, 3, 0, 15);
        desk.dueRun(1, 3, 4, 3, 0, 15);
        desk.renew(0);
        desk.renew(7, row(CALL, 2, 0), row(GIVE, 1));
        desk.dueRun(1, 3, 4, 0, 4, 20);
        desk.renew(0, row(CALL, 2, 0));
        desk.dueRun(0, 3, 4, 3, 0, 8);
    }

    private static void manyCalls(Desk desk) {
        for (int i = 0; i < 24; i++) {
            desk.add(0, row(CALL, 2, 1));
        }
        desk.add(1, row(SAY, 0), row(CALL, 2, 2), row(CALL, 2, 2));
        desk.dueRun(0, 3, 4, 0, 0, 96);
        desk.due("each of them", desk.told(2), 24);
    }

    private static void endsByLength(Desk desk) {
        desk.add(0, row(GO, 0));
        desk.dueRun(0, 1, 1, 4, 0, 2000);
        desk.renew(0, row(SET, 3, 1), row(ADD, 2, 2, 3), row(IF, 2, 0, 1), row(SAY, 2));
        desk.dueRun(0, 999, 1, 0, 0, 2000);
        desk.dueSaid(999);
        desk.add(0, row(GIVE, 0));
        desk.dueRun(0, 999, 1, 4, 0, 2000);
        desk.dueSaid(999);
        desk.dueRun(0, 998, 1, 0, 998, 1999);
        desk.dueRun(0, 1000, 1, 4, 0, 2000);
        desk.due("nothing is said", desk.told(2), 0);
    }

    private static void aheadOfWhatItDoes(Desk desk) {
        int[][] lasts = {row(SAY, 0), row(STORE, 0, 0), row(DIV, 2, 0, 1), row(CHECK, 1), row(GIVE, 0)};
        for (int[] last : lasts) {
            desk.renew(0, row(SET, 3, 1), row(ADD, 2, 2, 3), row(IF, 2, 0, 1), row(SET, 2, 0), last);
            desk.due("how it ends", desk.run(0, 0, 999, 0), 4);
            desk.due("done", desk.told(1), 2000);
            desk.due("said", desk.told(2), 0);
            desk.due("FIELD 0", desk.told(3), 0);
            desk.due("given", desk.told(0), 0);
        }
        desk.renew(0, row(SET, 3, 1), row(ADD, 2, 2, 3), row(IF, 2, 0, 1), row(CHECK, 1));
        desk.dueRun(0, 999, 0, 2, 0, 2000);
        desk.renew(0, row(SET, 3, 1), row(ADD, 2, 2, 3), row(IF, 2, 0, 1), row(CALL, 2, 1));
        desk.dueRun(0, 999, 0, 0, 0, 2000);
    }

    private static void lengthOfAll(Desk desk) {
        desk.add(0, row(CALL, 2, 1), row(CALL, 2, 1), row(GIVE, 2));
        desk.add(1, row(SET, 3, 1), row(ADD, 2, 2, 3), row(IF, 2, 0, 1), row(GIVE, 2));
        desk.dueRun(0, 498, 0, 0, 498, 1999);
        desk.dueRun(0, 499, 0, 4, 0, 2000);
        desk.renew(0, row(GO, 1), row(GO, 2), row(CALL, 2, 1));
        desk.dueRun(0, 997, 0, 0, 0, 1999);
        desk.dueRun(0, 998, 0, 4, 0, 2000);
    }
}
