/** Edges of section 3 and of promises 7 to 12, 14 and 15: each test goes by one sentence of the document. */
public final class ThreadEdgesTest {
    private static final int[] OTHERS = {-1, -2, -100, Integer.MIN_VALUE, Integer.MAX_VALUE, 1000};

    public static void main(String[] args) {
        laterThreads();
        aStepIsALine();
        theWhileAgain();
        behindTheLastLine();
        localsAre0();
        valuesAtTheEdge();
        valuesBeyond();
        valuesOnTheWay();
        locksNotHeld();
        startedAlready();
        asserts();
        lockedTenTimes();
        noMoreSteps();
        nothingElseIsDone();
        truths();
        ifAndWhileByTheExp();
        lockIsReady();
        unlockOnceLess();
        waitFreesTheLock();
        wakeByChoice();
        wakeWithoutAny();
        wakeThatGoesWrong();
        wakeAll();
        wokenTakesItAgain();
        joinIsReady();
        swapsAndSums();
        haltCallReply();
        beginWithoutProgramOrWay();
        beginAgain();
        readyNoneSuch();
        turnNotReady();
        turnFull();
        withoutARun();
        nextLines();
        threadNoneSuch();
        localNoneSuch();
        cellNoneSuch();
        heldNoneSuch();
        stepNoneSuch();
        House.finish();
    }

    private static void laterThreads() {
        House.sentence("Those without 'later' RUN at first, in the others' stead start makes them run.");
        House house = House.of("thread A { start C; } thread B later { halt; } thread C later { halt; } thread D { halt; }");
        for (int way = 0; way < 3; way++) {
            House.due("begin", house.x.begin(way), 2);
            house.readySteps(0, 30);
            house.thread(1, 0, House.NONE, 0);
            house.thread(2, 0, House.NONE, 0);
            house.turns(0);
            house.thread(1, 0, House.NONE, 0);
            house.thread(2, 1, 2, 0);
            house.readySteps(20, 30);
        }
        House none = House.of("thread A later { halt; }");
        House.due("begin", none.x.begin(0), 0);
        House.due("explore", none.x.explore(0, false), 1);
        House.due("sort", none.x.outcome(0, 0), 0);
    }

    private static void aStepIsALine() {
        House.sentence("Each STEP is one LINE of one thread (of 'if', 'while' the judging of its exp)");
        House house = House.of("thread A { if 1 { r = 1; } else { r = 2; } while r { r = 0; } }");
        int[] lines = {0, 1, 3, 4, 3};
        house.x.begin(0);
        for (int i = 0; i < lines.length; i++) {
            house.thread(0, 1, lines[i], 0);
            house.turns(0);
            House.due("line of step " + i, house.x.step(i, 2), lines[i]);
        }
        house.thread(0, 4, House.NONE, 0);
        House other = House.of("thread A { if 0 { r = 1; } else { r = 2; } while r - 2 { r = 0; } if 0 { } }");
        other.begin(0, 0, 0, 0, 0);
        House.due("r", other.x.local(0, 0), 2);
        other.thread(0, 4, House.NONE, 0);
    }

    private static void theWhileAgain() {
        House.sentence("at the end of a while's block what comes next is the while again");
        House empty = House.of("thread A { while 1 { } halt; }");
        empty.begin(0, 0, 0, 0);
        empty.thread(0, 1, 0, 0);
        House inner = House.of("thread A { while 1 { if 1 { if 0 { } else { fence; } } } }");
        inner.begin(0, 0, 0, 0, 0);
        inner.thread(0, 1, 0, 0);
        House branch = House.of("thread A { while 1 { if 1 { } else { } } }");
        branch.begin(0, 0, 0);
        branch.thread(0, 1, 0, 0);
        House nested = House.of("thread A { while 1 { while r < 1 { r = 1; } } }");
        nested.begin(0, 0, 0, 0);
        nested.thread(0, 1, 1, 0);
        nested.turns(0);
        nested.thread(0, 1, 0, 0);
    }

    private static void behindTheLastLine() {
        House.sentence("behind its last line a thread has ENDED (no STEP).");
        House house = House.of("thread A { } thread B { if 1 { fence; } } thread C { while 0 { fence; } } thread D { if 0 { fence; } else { } }");
        for (int way = 0; way < 3; way++) {
            House.due("begin", house.x.begin(way), 3);
            house.thread(0, 4, House.NONE, 0);
            house.turns(10, 10, 20, 30);
            for (int t = 0; t < 4; t++) {
                house.thread(t, 4, House.NONE, 0);
            }
            house.readySteps();
        }
        House later = House.of("thread A { start B; join B; } thread B later { }");
        later.begin(0, 0);
        later.thread(1, 4, House.NONE, 0);
        later.readySteps(0);
    }

    private static void localsAre0() {
        House.sentence("LOCALS are 0 at first.");
        House house = House.of("thread A { r = 5; s = 6; } thread B later { t = 1; }");
        for (int way = 0; way < 3; way++) {
            house.begin(way, 0, 0);
            House.due("r", house.x.local(0, 0), 5);
            House.due("s", house.x.local(0, 1), 6);
            house.x.begin(way);
            House.due("r", house.x.local(0, 0), 0);
            House.due("s", house.x.local(0, 1), 0);
            House.due("t of a thread that has not begun", house.x.local(1, 0), 0);
        }
    }

    private static void valuesAtTheEdge() {
        House.sentence("Values are numbers - 999 .. 999.");
        String[] exps = {"999", "- 999", "998 + 1", "0 - 999", "- 998 - 1", "333 * 3", "- 333 * 3", "27 * 37", "999 - 0", "999 * 1", "999 - 999 - 999",
            "0 - 998 + 997"};
        int[] due = {999, -999, 999, -999, -999, 999, -999, 999, 999, 999, -999, -1};
        for (int i = 0; i < exps.length; i++) {
            House house = House.of("cell x; thread A { r = " + exps[i] + "; x = " + exps[i] + "; }");
            for (int way = 0; way < 3; way++) {
                house.begin(way, 0, 0);
                House.due(exps[i], house.x.local(0, 0), due[i]);
                house.thread(0, 4, House.NONE, 0);
            }
        }
        House sums = House.of("cell x = 998; cell y = - 998; thread A { add x, 1 into r; add y, - 1 into s; add x, 0; add y, 0; cas x, 999, - 999 into t; }");
        for (int way = 0; way < 3; way++) {
            sums.begin(way, 0, 0, 0, 0, 0);
            House.due("x", sums.x.cell(0), -999);
            House.due("y", sums.x.cell(1), -999);
            House.due("r", sums.x.local(0, 0), 998);
            House.due("s", sums.x.local(0, 1), -998);
            House.due("t", sums.x.local(0, 2), 1);
        }
    }

    /** The last line of A goes wrong, by that why; all ways alike. */
    private static void wrong(String statements, int steps, int why) {
        House house = House.of("cell x = 999; cell y = - 999; lock l; thread A { " + statements + " halt; } thread B { halt; } thread C later { halt; }"
            + " thread D { }");
        for (int way = 0; way < 3; way++) {
            house.begin(way, new int[steps]);
            House.due("how A is by " + statements, house.x.thread(0, 0), 5);
            House.due("its line", house.x.thread(0, 1), House.NONE);
            House.due("why", house.x.thread(0, 2), why);
            House.due("line of the step", house.x.step(steps - 1, 2), steps - 1);
        }
    }

    private static void valuesBeyond() {
        House.sentence("A thread goes WRONG: 1 a value beyond");
        String[] exps = {"999 + 1", "- 999 - 1", "500 * 2", "- 500 * 2", "- 999 + - 1", "999 - - 1", "999 * 999"};
        for (String exp : exps) {
            wrong("r = " + exp + ";", 1, 1);
            wrong("x = " + exp + ";", 1, 1);
            wrong("cas x, " + exp + ", 1;", 1, 1);
            wrong("cas x, 1, " + exp + ";", 1, 1);
            wrong("cas x, 999, " + exp + " into r;", 1, 1);
            wrong("add x, " + exp + ";", 1, 1);
            wrong("assert " + exp + ";", 1, 1);
            wrong("call w " + exp + ";", 1, 1);
            wrong("reply " + exp + ";", 1, 1);
            wrong("if " + exp + " { }", 1, 1);
            wrong("while " + exp + " { }", 1, 1);
        }
        House.sentence("add: the cell becomes more by the exp's (a value beyond)");
        wrong("add x, 1;", 1, 1);
        wrong("add x, 999;", 1, 1);
        wrong("add y, - 1 into r;", 1, 1);
        wrong("add y, - 999;", 1, 1);
    }

    private static void valuesOnTheWay() {
        House.sentence("both sides are always worked out, each value on the way counts.");
        String[] exps = {"999 + 1 - 1", "0 & 999 + 1", "1 | 999 + 1", "999 + 1 & 0", "999 + 1 | 1", "0 * (999 + 1)", "!(999 + 1)", "- (999 + 1)",
            "999 + 1 == 0", "1 < 40 * 40", "(999 + 1) * 0", "- 999 - 999 + 999"};
        for (String exp : exps) {
            wrong("r = " + exp + ";", 1, 1);
            wrong("assert 1; assert 1 | " + exp + ";", 2, 1);
        }
        // a wrong value counts ahead of an assert's 0
        wrong("assert 0 & 999 + 1;", 1, 1);
    }

    private static void locksNotHeld() {
        House.sentence("2 unlock, wait, wake, wakeall of a lock that it does not hold");
        for (String statement : "unlock wait wake wakeall".split(" ")) {
            wrong(statement + " l;", 1, 2);
            wrong("lock l; unlock l; " + statement + " l;", 3, 2);
            House held = House.of("lock l; lock m; thread A { lock m; " + statement + " l; } thread B { lock l; lock l; }");
            for (int way = 0; way < 3; way++) {
                held.begin(way, 10, 10, 0);
                held.readySteps(0);
                held.turns(0);
                held.thread(0, 5, House.NONE, 2);
                House.due("who", held.x.held(0, 0), 1);
                House.due("how often", held.x.held(0, 1), 2);
                House.due("who has the other", held.x.held(1, 0), 0);
            }
        }
    }

    private static void startedAlready() {
        House.sentence("3 start of a thread that was started or runs from the first");
        wrong("start A;", 1, 3);
        wrong("start B;", 1, 3);
        wrong("start D;", 1, 3);
        wrong("start C; start C;", 2, 3);
        House ended = House.of("thread A { start B; join B; start B; } thread B later { halt; }");
        ended.begin(0, 0, 10, 0, 0);
        ended.thread(0, 5, House.NONE, 3);
        House wrong = House.of("thread A { start B; start B; } thread B later { assert 0; }");
        wrong.begin(0, 0, 10, 0);
        wrong.thread(0, 5, House.NONE, 3);
        wrong.thread(1, 5, House.NONE, 4);
        House other = House.of("thread A { start C; } thread B { start C; } thread C later { start C; }");
        other.begin(0, 10, 0, 20);
        other.thread(0, 5, House.NONE, 3);
        other.thread(1, 4, House.NONE, 0);
        other.thread(2, 5, House.NONE, 3);
    }

    private static void asserts() {
        House.sentence("4 an assert whose exp is 0");
        wrong("assert 0;", 1, 4);
        wrong("assert - 0;", 1, 4);
        wrong("assert 1 - 1;", 1, 4);
        wrong("assert r;", 1, 4);
        wrong("assert 1; assert - 1; assert 999; assert 0;", 4, 4);
    }

    private static void lockedTenTimes() {
        House.sentence("5 a lock taken a 10th time");
        wrong(House.times(10, "lock l; "), 10, 5);
        House house = House.of("lock k; lock l; thread A { " + House.times(9, "lock l;") + " lock k; unlock l; lock l; lock l; }");
        for (int way = 0; way < 3; way++) {
            house.begin(way, 0, 0, 0, 0, 0, 0, 0, 0, 0);
            House.due("how often", house.x.held(1, 1), 9);
            house.thread(0, 1, 9, 0);
            house.turns(0, 0, 0);
            House.due("how often", house.x.held(1, 1), 9);
            house.turns(0);
            house.thread(0, 5, House.NONE, 5);
            House.due("how often", house.x.held(1, 1), 9);
            House.due("who", house.x.held(1, 0), 0);
        }
        // the taking of a woken one gives all nine back
        House woken = House.of("lock l; thread A { " + House.times(9, "lock l;") + " wait l; lock l; } thread B { lock l; wakeall l; unlock l; }");
        woken.begin(0, 0, 0, 0, 0, 0, 0, 0, 0, 0, 0, 10, 10, 10, 0);
        House.due("how often", woken.x.held(0, 1), 9);
        woken.turns(0);
        woken.thread(0, 5, House.NONE, 5);
    }

    private static void noMoreSteps() {
        House.sentence("A thread goes WRONG (and takes no more steps, has no next line; locks that it holds stay held)");
        House house = House.of("lock l; thread A { lock l; lock l; assert 0; unlock l; halt; } thread B { lock l; }");
        for (int way = 0; way < 3; way++) {
            house.begin(way, 0, 0, 0);
            house.thread(0, 5, House.NONE, 4);
            house.readySteps();
            House.due("turn", house.x.turn(0, 0), House.NONE);
            House.due("who", house.x.held(0, 0), 0);
            House.due("how often", house.x.held(0, 1), 2);
        }
    }

    private static void nothingElseIsDone() {
        House.sentence("nothing else is done by it");
        House house = House.of("cell x = 5; thread A { r = 7; r = 999 + 1; } thread B { r = 7; add x, 995 into r; } thread C { r = 7; cas x, 5, 999 + 1 into r; }"
            + " thread D { r = 7; cas x, 999 + 1, 6 into r; }");
        for (int way = 0; way < 3; way++) {
            house.begin(way, 0, 10, 20, 30, 0, 10, 20, 30);
            for (int t = 0; t < 4; t++) {
                House.due("r of " + t, house.x.local(t, 0), 7);
                house.thread(t, 5, House.NONE, 1);
                House.due("buffer of " + t, house.x.thread(t, 3), 0);
            }
            House.due("x", house.x.cell(0), 5);
        }
        House store = House.of("cell x = 5; thread A { x = 999 + 1; } thread B { r = x; s = x; }");
        store.begin(1, 0);
        House.due("buffer", store.x.thread(0, 3), 0);
        store.begin(2, 0);
        House.due("no write", store.x.seen(1, 1), House.NO_VALUE);
        House waits = House.of("lock l; thread A { lock l; wait l; } thread B { lock l; unlock l; wakeall l; }");
        waits.begin(0, 0, 0, 10, 10, 10);
        waits.thread(0, 2, 1, 0);
        House start = House.of("thread A { start B; r = 1; start B; } thread B later { s = 1; s = 2; }");
        start.begin(0, 0, 10, 0, 0);
        start.thread(1, 1, 4, 0);
        House.due("s", start.x.local(1, 0), 1);
    }

    private static void truths() {
        House.sentence("truths are 1 and 0, what is not 0 is true");
        String[] exps = {"5 & 7", "- 5 & 7", "5 & 0", "0 & 5", "0 & 0", "5 | 7", "0 | - 7", "- 7 | 0", "0 | 0", "!5", "!- 5", "!0", "!!5",
            "5 == 5", "5 == - 5", "5 != 5", "5 != 4", "4 < 5", "5 < 5", "6 < 5", "4 <= 5", "5 <= 5", "6 <= 5", "4 > 5", "5 > 5", "6 > 5",
            "4 >= 5", "5 >= 5", "6 >= 5", "- 5 < - 4", "- 5 > - 4"};
        int[] due = {1, 1, 0, 0, 0, 1, 1, 1, 0, 0, 0, 1, 1, 1, 0, 0, 1, 1, 0, 0, 1, 1, 0, 0, 0, 1, 0, 1, 1, 1, 0};
        for (int i = 0; i < exps.length; i++) {
            House house = House.of("thread A { r = " + exps[i] + "; }");
            house.begin(0, 0);
            House.due(exps[i], house.x.local(0, 0), due[i]);
        }
    }

    private static void ifAndWhileByTheExp() {
        House.sentence("if, while: by the exp.");
        String[] exps = {"1", "- 1", "999", "- 999", "0", "1 - 1"};
        for (int i = 0; i < exps.length; i++) {
            boolean holds = i < 4;
            House house = House.of("thread A { if " + exps[i] + " { r = 1; } else { r = 2; } while " + exps[i] + " { fence; } halt; }");
            house.begin(0, 0);
            house.thread(0, 1, holds ? 1 : 2, 0);
            house.turns(0, 0);
            house.thread(0, 1, holds ? 4 : 5, 0);
        }
    }

    private static void lockIsReady() {
        House.sentence("lock: READY if nobody or the thread itself holds it, once more then.");
        House house = House.of("lock l; thread A { lock l; lock l; lock l; } thread B { lock l; }");
        for (int way = 0; way < 3; way++) {
            house.x.begin(way);
            house.readySteps(0, 10);
            house.turns(0);
            for (int often = 1; often < 3; often++) {
                House.due("how often", house.x.held(0, 1), often);
                House.due("who", house.x.held(0, 0), 0);
                house.readySteps(0);
                house.turns(0);
            }
            House.due("how often", house.x.held(0, 1), 3);
            // it stays held behind the end of the thread
            house.thread(0, 4, House.NONE, 0);
            house.readySteps();
            House.due("turn", house.x.turn(1, 0), House.NONE);
        }
    }

    private static void unlockOnceLess() {
        House.sentence("unlock: once less.");
        House house = House.of("lock l; thread A { lock l; lock l; unlock l; unlock l; } thread B { lock l; }");
        house.begin(0, 0, 0, 0);
        House.due("how often", house.x.held(0, 1), 1);
        House.due("who", house.x.held(0, 0), 0);
        house.readySteps(0);
        house.turns(0);
        House.due("how often", house.x.held(0, 1), 0);
        House.due("who", house.x.held(0, 0), House.NONE);
        house.readySteps(10);
    }

    private static void waitFreesTheLock() {
        House.sentence("wait: the lock is free, whatever the thread had of it, and it WAITS");
        for (int often = 1; often < 10; often++) {
            House house = House.of("lock l; thread A { " + House.times(often, "lock l; ") + "wait l; } thread B { lock l; }");
            house.begin(0, new int[often + 1]);
            House.due("who", house.x.held(0, 0), House.NONE);
            House.due("how often", house.x.held(0, 1), 0);
            house.thread(0, 2, often, 0);
            house.readySteps(10);
        }
    }

    private static void wakeByChoice() {
        House.sentence("wake lets one of those that WAIT for this lock (which one: a CHOICE 0, 1, .. by their numbers) be WOKEN");
        String waits = "{ lock l; wait l; } ";
        House house = House.of("lock l; thread A " + waits + "thread B { lock l; wake l; } thread C " + waits + "thread D " + waits);
        for (int choice = 0; choice < 3; choice++) {
            // they wait in another order than that of their numbers
            house.begin(0, 30, 30, 0, 0, 20, 20, 10);
            house.readySteps(10, 11, 12);
            House.due("turn(1, 3)", house.x.turn(1, 3), House.NONE);
            house.turns(10 + choice);
            int[] waiting = {0, 2, 3};
            for (int i = 0; i < 3; i++) {
                House.due("how " + waiting[i] + " is", house.x.thread(waiting[i], 0), i == choice ? 3 : 2);
            }
        }
        // one that waits for another lock, or is woken already, is none of them
        House other = House.of("lock l; lock m; thread A { lock m; wait m; } thread B { lock l; wake l; wake l; wake l; } thread C " + waits + "thread D " + waits);
        other.begin(0, 0, 0, 20, 20, 30, 30, 10);
        other.readySteps(10, 11);
        other.turns(10);
        other.thread(2, 3, 7, 0);
        other.readySteps(10);
        other.turns(10);
        other.thread(3, 3, 9, 0);
        other.thread(0, 2, 1, 0);
    }

    private static void wakeWithoutAny() {
        House.sentence("without any, there is CHOICE 0 alone, and it does nothing");
        House house = House.of("lock l; lock m; thread A { lock l; wake l; wakeall l; } thread B { lock m; wait m; }");
        for (int way = 0; way < 3; way++) {
            house.begin(way, 10, 10, 0);
            house.readySteps(0);
            House.due("turn(0, 1)", house.x.turn(0, 1), House.NONE);
            house.turns(0);
            house.thread(1, 2, 4, 0);
            house.thread(0, 1, 2, 0);
            house.readySteps(0);
            house.turns(0);
            house.thread(1, 2, 4, 0);
            House.due("how often", house.x.held(0, 1), 1);
        }
    }

    private static void wakeThatGoesWrong() {
        House.sentence("when it goes WRONG, there is CHOICE 0 alone, and it does nothing");
        House house = House.of("lock l; thread A { wake l; } thread B { lock l; wait l; } thread C { lock l; wait l; }");
        for (int way = 0; way < 3; way++) {
            house.begin(way, 10, 10, 20, 20);
            house.readySteps(0);
            House.due("turn(0, 1)", house.x.turn(0, 1), House.NONE);
            house.turns(0);
            house.thread(0, 5, House.NONE, 2);
            house.thread(1, 2, 2, 0);
            house.thread(2, 2, 4, 0);
        }
    }

    private static void wakeAll() {
        House.sentence("wakeall all of them.");
        House house = House.of("lock l; lock m; thread A { lock l; wait l; } thread B { lock m; wait m; } thread C { lock l; wakeall l; unlock l; }"
            + " thread D { lock l; wait l; }");
        house.begin(0, 0, 0, 10, 10, 30, 30, 20);
        house.readySteps(20);
        house.turns(20);
        house.thread(0, 3, 1, 0);
        house.thread(1, 2, 3, 0);
        house.thread(3, 3, 8, 0);
        house.readySteps(20);
        house.turns(20);
        house.readySteps(0, 30);
    }

    private static void wokenTakesItAgain() {
        House.sentence("A WOKEN one is READY when the lock is free, and its STEP is taking it as often as it had it; it goes on behind the wait then.");
        for (int often = 1; often < 10; often++) {
            House house = House.of("lock k; lock l; thread A { " + House.times(often, "lock l; ") + "wait l; halt; } thread B { lock l; wake l; unlock l; lock l; }");
            house.begin(0, new int[often + 1]);
            house.turns(10, 10);
            house.thread(0, 3, often, 0);
            house.readySteps(10);
            House.due("turn", house.x.turn(0, 0), House.NONE);
            house.turns(10);
            house.readySteps(0, 10);
            house.turns(0);
            House.due("line of the taking", house.x.step(often + 4, 2), often);
            House.due("who", house.x.held(1, 0), 0);
            House.due("how often", house.x.held(1, 1), often);
            house.thread(0, 1, often + 1, 0);
            house.readySteps(0);
        }
        House last = House.of("lock l; thread A { lock l; wait l; } thread B { lock l; wake l; unlock l; }");
        last.begin(0, 0, 0, 10, 10, 10, 0);
        last.thread(0, 4, House.NONE, 0);
        House.due("who", last.x.held(0, 0), 0);
        // a wait in a loop goes on at the while
        House loop = House.of("lock l; thread A { lock l; while 1 { wait l; } } thread B { lock l; wake l; unlock l; }");
        loop.begin(0, 0, 0, 0, 10, 10, 10, 0);
        loop.thread(0, 1, 1, 0);
    }

    private static void joinIsReady() {
        House.sentence("join: READY when the other one has ENDED (never if it goes WRONG).");
        House house = House.of("thread A { join B; join C; } thread B { fence; halt; } thread C { assert 0; } thread D { join D; }");
        for (int way = 0; way < 3; way++) {
            house.x.begin(way);
            house.readySteps(10, 20);
            house.turns(10);
            house.readySteps(10, 20);
            house.turns(10);
            house.readySteps(0, 20);
            house.turns(0, 20);
            house.readySteps();
            House.due("turn", house.x.turn(0, 0), House.NONE);
        }
        House later = House.of("thread A { join B; } thread B later { } thread C { } thread D { join C; }");
        later.x.begin(0);
        // one that is not started has not ended; one without lines has
        later.readySteps(30);
    }

    private static void swapsAndSums() {
        House.sentence("cas: if the cell's value is the first exp's, it becomes the second one's; 'into' gets 1 or 0. add: .. 'into' gets what it was.");
        House house = House.of("cell x = 5; cell y = - 5; thread A { p = 8; cas x, 5, 5 into p; cas x, 4, 6 into q; cas x, 5, 7; add y, 10 into r; add y, 0 into s; add y, - 5; }");
        for (int way = 0; way < 3; way++) {
            house.begin(way, 0, 0);
            House.due("p", house.x.local(0, 0), 1);
            House.due("x", house.x.cell(0), 5);
            house.turns(0);
            House.due("q", house.x.local(0, 1), 0);
            House.due("x", house.x.cell(0), 5);
            house.turns(0);
            House.due("x", house.x.cell(0), 7);
            house.turns(0);
            House.due("r", house.x.local(0, 2), -5);
            House.due("y", house.x.cell(1), 5);
            house.turns(0);
            House.due("s", house.x.local(0, 3), 5);
            house.turns(0);
            House.due("y", house.x.cell(1), 0);
        }
        // the local that it sets stands in its exps, too
        House own = House.of("cell x = 2; thread A { r = 2; cas x, r, r + 1 into r; add x, r into r; }");
        own.begin(0, 0, 0, 0);
        House.due("x", own.x.cell(0), 4);
        House.due("r", own.x.local(0, 0), 3);
    }

    private static void haltCallReply() {
        House.sentence("halt: the thread has ENDED. call and reply (7): nothing else.");
        House house = House.of("cell x; lock l; thread A { lock l; while 1 { call write 5; reply 6; halt; } r = 1; }");
        for (int way = 0; way < 3; way++) {
            house.begin(way, 0, 0, 0);
            house.thread(0, 1, 3, 0);
            house.turns(0);
            house.thread(0, 1, 4, 0);
            House.due("x", house.x.cell(0), 0);
            House.due("r", house.x.local(0, 0), 0);
            house.turns(0);
            house.thread(0, 4, House.NONE, 0);
            House.due("who", house.x.held(0, 0), 0);
            house.readySteps();
        }
    }

    private static void beginWithoutProgramOrWay() {
        House.sentence("begin: BAD: no program, way.");
        House none = new House();
        House.due("begin without a program", none.x.begin(0), House.BAD);
        none.read("cell");
        House.due("begin behind a fault", none.x.begin(0), House.BAD);
        House house = House.of("thread A { halt; halt; }");
        house.begin(0, 0);
        int[] ways = {-1, 3, 4, 9, Integer.MIN_VALUE, Integer.MAX_VALUE};
        for (int way : ways) {
            House.due("begin(" + way + ")", house.x.begin(way), House.BAD);
            House.due("the run goes on", house.x.step(-1, 0), 1);
            House.due("no run", House.of("").x.step(-1, 0), House.BAD);
        }
        house.thread(0, 4, House.NONE, 0);
    }

    private static void beginAgain() {
        House.sentence("A run begins by a way, in the first STATE: how many STEPS are READY.");
        House house = House.of("cell x = 3; lock l; thread A { lock l; x = 4; r = 5; start B; } thread B later { } thread C { }");
        for (int way = 0; way < 3; way++) {
            House.due("begin", house.x.begin(way), 1);
            House.due("x", house.x.cell(0), 3);
            House.due("r", house.x.local(0, 0), 0);
            House.due("who", house.x.held(0, 0), House.NONE);
            House.due("how often", house.x.held(0, 1), 0);
            House.due("buffer", house.x.thread(0, 3), 0);
            House.due("steps", house.x.step(-1, 0), 0);
            house.thread(0, 1, 0, 0);
            house.thread(1, 0, House.NONE, 0);
            house.thread(2, 4, House.NONE, 0);
            house.turns(0, 0, 0);
            House.due("buffer", house.x.thread(0, 3), way == 1 ? 1 : 0);
        }
        House.due("no threads", House.of("cell x;").x.begin(0), 0);
        House.due("four threads", House.of("thread A { halt; } thread B { halt; } thread C { halt; } thread D { halt; }").x.begin(0), 4);
    }

    private static void readyNoneSuch() {
        House.sentence("The i-th READY STEP (by threads, then CHOICES); NONE: none such. BAD: no run.");
        House house = House.of("thread A { halt; } thread B later { halt; } thread C { halt; }");
        House.due("ready without a run", house.x.ready(0), House.BAD);
        House.due("ready without a run", house.x.ready(-1), House.BAD);
        house.x.begin(0);
        house.readySteps(0, 20);
        for (int i : OTHERS) {
            House.due("ready(" + i + ")", house.x.ready(i), House.NONE);
        }
        house.turns(20, 0);
        House.due("ready(0) in an end", house.x.ready(0), House.NONE);
    }

    private static void turnNotReady() {
        House.sentence("NONE, changing nothing: it is not READY");
        House house = House.of("lock l; thread A { lock l; halt; } thread B { lock l; } thread C later { halt; } thread D { }");
        for (int way = 0; way < 3; way++) {
            house.begin(way, 0);
            for (int t = -2; t < 6; t++) {
                for (int choice = -2; choice < 12; choice++) {
                    if (t != 0 || choice != 0) {
                        House.due("turn(" + t + ", " + choice + ")", house.x.turn(t, choice), House.NONE);
                    }
                }
            }
            for (int other : OTHERS) {
                House.due("turn(" + other + ", 0)", house.x.turn(other, 0), House.NONE);
                House.due("turn(0, " + other + ")", house.x.turn(0, other), House.NONE);
                House.due("turn(" + other + ", 9)", house.x.turn(other, 9), House.NONE);
            }
            House.due("steps", house.x.step(-1, 0), 1);
            house.thread(0, 1, 1, 0);
            house.readySteps(0);
        }
    }

    private static void turnFull() {
        House.sentence("else FULL, changing nothing: 200 were done.");
        House house = House.of("cell x; thread A { while 1 { } } thread B { x = 1; }");
        house.x.begin(1);
        for (int i = 1; i <= 200; i++) {
            House.due("turn " + i, house.x.turn(0, 0), 2);
        }
        House.due("turn(0, 0)", house.x.turn(0, 0), House.FULL);
        House.due("turn(1, 0)", house.x.turn(1, 0), House.FULL);
        House.due("turn(1, 9), not ready", house.x.turn(1, 9), House.NONE);
        House.due("turn(0, 1), not ready", house.x.turn(0, 1), House.NONE);
        House.due("turn(4, 0), not ready", house.x.turn(4, 0), House.NONE);
        House.due("steps", house.x.step(-1, 0), 200);
        House.due("buffer", house.x.thread(1, 3), 0);
        house.thread(1, 1, 1, 0);
        House.due("ready", house.x.ready(1), 10);
        House.due("begin", house.x.begin(1), 2);
        House.due("turn", house.x.turn(1, 0), 2);
    }

    private static void withoutARun() {
        House.sentence("BAD (cell, seen: - 1,000): no run");
        House house = House.of("cell x; lock l; thread A { r = x; }");
        house.x.explore(0, false);
        House.due("turn", house.x.turn(0, 0), House.BAD);
        House.due("turn", house.x.turn(-1, -1), House.BAD);
        House.due("thread", house.x.thread(0, 0), House.BAD);
        House.due("local", house.x.local(0, 0), House.BAD);
        House.due("local of none", house.x.local(9, 9), House.BAD);
        House.due("cell", house.x.cell(0), House.NO_VALUE);
        House.due("seen", house.x.seen(0, 0), House.NO_VALUE);
        House.due("held", house.x.held(0, 0), House.BAD);
        House.due("step(-1, 0)", house.x.step(-1, 0), House.BAD);
        House.due("step(0, 0)", house.x.step(0, 0), House.BAD);
        House.due("before", house.x.before(0, 0), House.BAD);
        House.due("runRace", house.x.runRace(-1, 0), House.BAD);
        House.due("linear", house.x.linear(0), House.BAD);
    }

    private static void nextLines() {
        House.sentence("1 its next line (that of its wait, while it WAITS or is WOKEN; NONE: not started, ENDED, WRONG), 2 why it went WRONG (0)");
        String program = "lock l; thread A { r = 1; lock l; wait l; unlock l; } thread B { lock l; wake l; unlock l; assert 0; }"
            + " thread C later { fence; } thread D { halt; halt; }";
        House house = House.of(program);
        for (int way = 0; way < 3; way++) {
            house.begin(way);
            house.thread(0, 1, 0, 0);
            house.thread(2, 0, House.NONE, 0);
            house.turns(0, 0);
            house.thread(0, 1, 2, 0);
            house.turns(0);
            house.thread(0, 2, 2, 0);
            house.turns(10, 10);
            house.thread(0, 3, 2, 0);
            house.turns(10, 0);
            house.thread(0, 1, 3, 0);
            house.turns(10);
            house.thread(1, 5, House.NONE, 4);
            house.turns(30);
            house.thread(3, 4, House.NONE, 0);
            house.thread(2, 0, House.NONE, 0);
            house.turns(0);
            house.thread(0, 4, House.NONE, 0);
        }
    }

    private static void threadNoneSuch() {
        House.sentence("thread: BAD: no run, none such.");
        House house = House.of("thread A { halt; } thread B { halt; }");
        house.x.begin(0);
        for (int other : OTHERS) {
            House.due("thread(" + other + ", 0)", house.x.thread(other, 0), House.BAD);
            House.due("thread(0, " + other + ")", house.x.thread(0, other), House.BAD);
        }
        for (int what = 0; what < 4; what++) {
            House.due("thread(2, " + what + ")", house.x.thread(2, what), House.BAD);
            House.due("thread(1, " + what + ") is there", house.x.thread(1, what), what < 2 ? 1 : 0);
        }
        House.due("thread(1, 4)", house.x.thread(1, 4), House.BAD);
    }

    private static void localNoneSuch() {
        House.sentence("A LOCAL of a thread. - 1,000: none such.");
        House house = House.of("thread A { r = 1; s = 2; } thread B { } thread C { a = b + c + d + e + f; }");
        house.begin(0, 0, 0);
        House.due("local(0, 1)", house.x.local(0, 1), 2);
        House.due("local(0, 2)", house.x.local(0, 2), House.NO_VALUE);
        House.due("local(1, 0)", house.x.local(1, 0), House.NO_VALUE);
        House.due("local(2, 5)", house.x.local(2, 5), 0);
        House.due("local(2, 6)", house.x.local(2, 6), House.NO_VALUE);
        House.due("local(3, 0)", house.x.local(3, 0), House.NO_VALUE);
        for (int other : OTHERS) {
            House.due("local(" + other + ", 0)", house.x.local(other, 0), House.NO_VALUE);
            House.due("local(0, " + other + ")", house.x.local(0, other), House.NO_VALUE);
        }
    }

    private static void cellNoneSuch() {
        House.sentence("A cell of the memory. - 1,000: no run, none such.");
        House house = House.of("cell x = - 999; cell y = 999;");
        house.x.begin(0);
        House.due("cell(0)", house.x.cell(0), -999);
        House.due("cell(1)", house.x.cell(1), 999);
        House.due("cell(2)", house.x.cell(2), House.NO_VALUE);
        for (int other : OTHERS) {
            House.due("cell(" + other + ")", house.x.cell(other), House.NO_VALUE);
        }
    }

    private static void heldNoneSuch() {
        House.sentence("Of a lock: 0 who holds it (NONE), 1 how often. BAD: no run, none such.");
        House house = House.of("lock l; lock m; thread A { } thread B { lock m; }");
        house.begin(0, 10);
        House.due("held(0, 0)", house.x.held(0, 0), House.NONE);
        House.due("held(0, 1)", house.x.held(0, 1), 0);
        House.due("held(1, 0)", house.x.held(1, 0), 1);
        House.due("held(1, 1)", house.x.held(1, 1), 1);
        House.due("held(1, 2)", house.x.held(1, 2), House.BAD);
        House.due("held(2, 0)", house.x.held(2, 0), House.BAD);
        House.due("held(2, 1)", house.x.held(2, 1), House.BAD);
        for (int other : OTHERS) {
            House.due("held(" + other + ", 0)", house.x.held(other, 0), House.BAD);
            House.due("held(0, " + other + ")", house.x.held(0, other), House.BAD);
        }
    }

    private static void stepNoneSuch() {
        House.sentence("step: (NONE of a FLUSH); i = - 1: how many there were (what 0). BAD: no run, none such.");
        House house = House.of("cell x; thread A { } thread B { x = 1; halt; }");
        house.x.begin(1);
        House.due("step(-1, 0)", house.x.step(-1, 0), 0);
        House.due("step(0, 0)", house.x.step(0, 0), House.BAD);
        house.turns(10, 19);
        int[][] due = {{1, 0, 0}, {1, 9, House.NONE}};
        for (int i = 0; i < 2; i++) {
            for (int what = 0; what < 3; what++) {
                House.due("step(" + i + ", " + what + ")", house.x.step(i, what), due[i][what]);
            }
            House.due("step(" + i + ", 3)", house.x.step(i, 3), House.BAD);
        }
        House.due("step(-1, 0)", house.x.step(-1, 0), 2);
        House.due("step(-1, 1)", house.x.step(-1, 1), House.BAD);
        House.due("step(-1, 2)", house.x.step(-1, 2), House.BAD);
        House.due("step(-1, -1)", house.x.step(-1, -1), House.BAD);
        House.due("step(2, 0)", house.x.step(2, 0), House.BAD);
        for (int other : OTHERS) {
            if (other != -1) {
                House.due("step(" + other + ", 0)", house.x.step(other, 0), House.BAD);
            }
            House.due("step(0, " + other + ")", house.x.step(0, other), House.BAD);
        }
    }
}
