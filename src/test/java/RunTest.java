/** Promises 7 to 17: runs by the three ways of memory. */
public final class RunTest {
    public static void main(String[] args) {
        beginAndTurn();
        fullRun();
        values();
        wrongs();
        manyTimesLocked();
        waitAndWake();
        startAndJoin();
        blocks();
        buffers();
        bufferedJoin();
        buffersOfOthers();
        views();
        viewsOfSwapsAndSums();
        viewsOfLocksAndThreads();
        viewsOfFences();
        nineWrites();
        runGoesOn();
        before();
        beforeInLongRuns();
        runRaces();
        House.finish();
    }

    private static void beginAndTurn() {
        House house = House.of("cell x = 7; thread A { r = x; } thread B later { } thread C { }");
        TurnHouse x = house.x;
        House.due("begin(3)", x.begin(3), House.BAD);
        House.due("begin(-1)", x.begin(-1), House.BAD);
        House.due("ready without a run", x.ready(0), House.BAD);
        for (int way = 0; way < 3; way++) {
            House.due("begin", x.begin(way), 1);
            house.readySteps(0);
            House.due("ready(-1)", x.ready(-1), House.NONE);
            house.thread(0, 1, 0, 0);
            house.thread(1, 0, House.NONE, 0);
            house.thread(2, 4, House.NONE, 0);
            House.due("thread(3, 0)", x.thread(3, 0), House.BAD);
            House.due("thread(-1, 0)", x.thread(-1, 0), House.BAD);
            House.due("thread(0, 4)", x.thread(0, 4), House.BAD);
            House.due("thread(0, -1)", x.thread(0, -1), House.BAD);
            House.due("cell(0)", x.cell(0), 7);
            House.due("cell(1)", x.cell(1), House.NO_VALUE);
            House.due("cell(-1)", x.cell(-1), House.NO_VALUE);
            House.due("local(0, 0)", x.local(0, 0), 0);
            House.due("local(0, 1)", x.local(0, 1), House.NO_VALUE);
            House.due("local(0, -1)", x.local(0, -1), House.NO_VALUE);
            House.due("local(1, 0)", x.local(1, 0), House.NO_VALUE);
            House.due("local(4, 0)", x.local(4, 0), House.NO_VALUE);
            House.due("local(-1, 0)", x.local(-1, 0), House.NO_VALUE);
            House.due("local(3, 0)", x.local(3, 0), House.NO_VALUE);
            House.due("seen(0, 0)", x.seen(0, 0), 7);
            House.due("seen(0, 1)", x.seen(0, 1), House.NO_VALUE);
            House.due("seen(0, -1)", x.seen(0, -1), House.NO_VALUE);
            House.due("seen(1, 0)", x.seen(1, 0), House.NO_VALUE);
            House.due("seen(-1, 0)", x.seen(-1, 0), House.NO_VALUE);
            House.due("held(0, 0)", x.held(0, 0), House.BAD);
            for (int choice = -1; choice < 12; choice++) {
                House.due("turn(1, " + choice + ")", x.turn(1, choice), House.NONE);
                House.due("turn(3, " + choice + ")", x.turn(3, choice), House.NONE);
                House.due("turn(-1, " + choice + ")", x.turn(-1, choice), House.NONE);
            }
            House.due("turn(0, 1)", x.turn(0, 1), House.NONE);
            House.due("turn(0, 9)", x.turn(0, 9), House.NONE);
            House.due("steps", x.step(-1, 0), 0);
            House.due("turn(0, 0)", x.turn(0, 0), 0);
            House.due("local(0, 0)", x.local(0, 0), 7);
            House.due("steps", x.step(-1, 0), 1);
            House.due("step(-1, 1)", x.step(-1, 1), House.BAD);
            House.due("step(0, 0)", x.step(0, 0), 0);
            House.due("step(0, 1)", x.step(0, 1), 0);
            House.due("step(0, 2)", x.step(0, 2), 0);
            House.due("step(0, 3)", x.step(0, 3), House.BAD);
            House.due("step(0, -1)", x.step(0, -1), House.BAD);
            House.due("step(1, 0)", x.step(1, 0), House.BAD);
            House.due("step(-2, 0)", x.step(-2, 0), House.BAD);
            house.thread(0, 4, House.NONE, 0);
            House.due("turn behind the end", x.turn(0, 0), House.NONE);
            house.readySteps();
        }
    }

    private static void fullRun() {
        House house = House.of("thread A { while 1 { } } thread B { halt; }");
        house.x.begin(0);
        for (int i = 0; i < 200; i++) {
            House.due("turn " + i, house.x.turn(0, 0), 2);
        }
        House.due("turn of a full run", house.x.turn(0, 0), House.FULL);
        House.due("turn of a full run, not ready", house.x.turn(0, 1), House.NONE);
        House.due("steps", house.x.step(-1, 0), 200);
        House.due("step(199, 2)", house.x.step(199, 2), 0);
        House.due("begin again", house.x.begin(0), 2);
        House.due("steps", house.x.step(-1, 0), 0);
    }

    /** What an expression of p = 5, q = -3 comes to. */
    private static void value(String exp, int due) {
        House house = House.of("thread A { p = 5; q = - 3; r = " + exp + "; }");
        house.begin(0, 0, 0, 0);
        House.due(exp, house.x.local(0, 2), due);
    }

    private static void wrongValue(String exp) {
        House house = House.of("thread A { p = 5; q = - 3; r = " + exp + "; }");
        house.begin(0, 0, 0, 0);
        house.thread(0, 5, House.NONE, 1);
        House.due("r behind " + exp, house.x.local(0, 2), 0);
    }

    private static void values() {
        value("p + q * 2", -1);
        value("(p + q) * 2", 4);
        value("p - q - 1", 7);
        value("- p - - q", -8);
        value("- (p + q)", -2);
        value("!p", 0);
        value("!(p - 5)", 1);
        value("p < q | q < p", 1);
        value("p & q", 1);
        value("p & 0 | 0", 0);
        value("1 | 0 & 0", 1);
        value("p == 5 & q != 5", 1);
        value("p == q", 0);
        value("p != 5", 0);
        value("p != 4", 1);
        value("(p == 5) + (p < 6) + (p > 4) + (p & q) + (p | q) + !0", 6);
        value("p <= 5", 1);
        value("p <= 4", 0);
        value("p >= 5", 1);
        value("p >= 6", 0);
        value("p > 4", 1);
        value("p > 5", 0);
        value("q < - 3", 0);
        value("2 < 1 + 2", 1);
        value("999", 999);
        value("- 999", -999);
        value("333 * 3", 999);
        value("999 - 999 + 999", 999);
        wrongValue("999 + 1");
        wrongValue("- 999 - 1");
        wrongValue("999 + 1 - 1");
        wrongValue("500 * 2 == 0");
        wrongValue("0 & 999 * 999");
        wrongValue("1 | 999 + p");
    }

    /** Thread A goes wrong for why by its last step, at that line. */
    private static void wrong(String statements, int steps, int why) {
        for (int way = 0; way < 3; way++) {
            House house = House.of("cell x = 999; lock l; thread A { " + statements + " } thread B { } thread C later { }");
            house.begin(way, new int[steps]);
            house.thread(0, 5, House.NONE, why);
            house.readySteps();
            House.due("cell behind " + statements, house.x.cell(0), 999);
            House.due("line", house.x.step(steps - 1, 2), steps - 1);
        }
    }

    private static void wrongs() {
        wrong("x = 999 + 1;", 1, 1);
        wrong("add x, 1;", 1, 1);
        wrong("add x, 1 into r;", 1, 1);
        wrong("cas x, 999 + 1, 0;", 1, 1);
        wrong("cas x, 0, 999 + 1;", 1, 1);
        wrong("assert 999 + 1;", 1, 1);
        wrong("if 999 + 1 { }", 1, 1);
        wrong("while 999 + 1 { }", 1, 1);
        wrong("call write 999 + 1;", 1, 1);
        wrong("reply 999 + 1;", 1, 1);
        wrong("unlock l;", 1, 2);
        wrong("wait l;", 1, 2);
        wrong("wake l;", 1, 2);
        wrong("wakeall l;", 1, 2);
        wrong("lock l; unlock l; unlock l;", 3, 2);
        wrong("start A;", 1, 3);
        wrong("start B;", 1, 3);
        wrong("start C; start C;", 2, 3);
        wrong("assert 0;", 1, 4);
        wrong("assert 1; assert 1 - 1;", 2, 4);
        House ends = House.of("cell x = - 998; thread A { add x, - 1; add x, 999; add x, 999; add x, 1; }");
        for (int way = 0; way < 3; way++) {
            ends.begin(way, 0);
            House.due("the least value", ends.x.cell(0), -999);
            ends.turns(0, 0);
            House.due("the greatest value", ends.x.cell(0), 999);
            ends.turns(0);
            ends.thread(0, 5, House.NONE, 1);
        }
        House house = House.of("cell x = 5; thread A { cas x, 5, 6 into p; cas x, 5, 7 into q; add x, 3 into r; }");
        for (int way = 0; way < 3; way++) {
            house.begin(way, 0, 0, 0);
            House.due("x", house.x.cell(0), 9);
            House.due("p", house.x.local(0, 0), 1);
            House.due("q", house.x.local(0, 1), 0);
            House.due("r", house.x.local(0, 2), 6);
        }
    }

    private static void manyTimesLocked() {
        House house = House.of("lock k; lock l; lock m; thread A { lock l; lock l; unlock l; unlock l; while 1 { lock m; } }"
            + " thread B { lock l; }");
        for (int way = 0; way < 3; way++) {
            house.begin(way, 0);
            House.due("who", house.x.held(1, 0), 0);
            House.due("how often", house.x.held(1, 1), 1);
            House.due("held(1, 2)", house.x.held(1, 2), House.BAD);
            House.due("held(1, -1)", house.x.held(1, -1), House.BAD);
            House.due("held(3, 0)", house.x.held(3, 0), House.BAD);
            House.due("held(-1, 0)", house.x.held(-1, 0), House.BAD);
            house.readySteps(0);
            house.turns(0);
            House.due("how often", house.x.held(1, 1), 2);
            house.turns(0);
            House.due("how often", house.x.held(1, 1), 1);
            house.readySteps(0);
            house.turns(0);
            House.due("who", house.x.held(1, 0), House.NONE);
            House.due("how often", house.x.held(1, 1), 0);
            house.readySteps(0, 10);
            for (int i = 0; i < 9; i++) {
                house.turns(0, 0);
            }
            House.due("how often", house.x.held(2, 1), 9);
            house.turns(0, 0);
            house.thread(0, 5, House.NONE, 5);
            House.due("how often", house.x.held(2, 1), 9);
            House.due("who", house.x.held(2, 0), 0);
        }
    }

    private static void waitAndWake() {
        House house = House.of("lock l; lock m; thread A { lock l; lock l; wait l; r = 1; } thread B { lock l; wait l; }"
            + " thread C { lock m; wait m; } thread D { lock l; wake l; wake l; wakeall l; unlock l; }");
        for (int way = 0; way < 3; way++) {
            house.begin(way, 0, 0, 0, 10, 10, 20, 20);
            house.thread(0, 2, 2, 0);
            house.thread(1, 2, 5, 0);
            House.due("who", house.x.held(0, 0), House.NONE);
            house.readySteps(30);
            house.turns(30);
            // two of them wait for this lock
            house.readySteps(30, 31);
            house.turns(31);
            house.thread(0, 2, 2, 0);
            house.thread(1, 3, 5, 0);
            house.readySteps(30);
            house.turns(30);
            house.thread(0, 3, 2, 0);
            // none waits: one choice, that does nothing
            house.readySteps(30);
            house.turns(30, 30);
            house.readySteps(0, 10);
            house.turns(0);
            house.thread(0, 1, 3, 0);
            House.due("who", house.x.held(0, 0), 0);
            House.due("how often", house.x.held(0, 1), 2);
            House.due("line of the taking", house.x.step(12, 2), 2);
            house.readySteps(0);
            house.thread(2, 2, 7, 0);
        }
        House all = House.of("lock l; thread A { lock l; wait l; } thread B { lock l; wait l; } thread C { lock l; wakeall l; }");
        all.begin(0, 0, 0, 10, 10, 20, 20);
        all.thread(0, 3, 1, 0);
        all.thread(1, 3, 3, 0);
        all.readySteps();
        House twice = House.of("lock l; lock m; thread A { lock m; wake m; unlock m; } thread B { lock m; lock m; lock m; wait m; wait m; }");
        twice.begin(0, 10, 10, 10, 10, 0, 0, 0, 10);
        House.due("who", twice.x.held(1, 0), 1);
        House.due("how often", twice.x.held(1, 1), 3);
        House.due("the other lock", twice.x.held(0, 0), House.NONE);
        twice.turns(10);
        House.due("who", twice.x.held(1, 0), House.NONE);
        House.due("how often", twice.x.held(1, 1), 0);
        twice.thread(1, 2, 7, 0);
        House alone = House.of("lock l; thread A { wake l; } thread B { lock l; wait l; }");
        alone.begin(0, 10, 10);
        alone.readySteps(0);
        alone.turns(0);
        alone.thread(0, 5, House.NONE, 2);
        alone.thread(1, 2, 2, 0);
    }

    private static void startAndJoin() {
        House house = House.of("thread A { join B; start B; join B; join C; } thread B later { assert r; } thread C later { }");
        for (int way = 0; way < 3; way++) {
            house.begin(way);
            house.readySteps();
        }
        House other = House.of("thread A { start B; join B; start C; join C; r = 1; } thread B later { s = 1; } thread C later { }");
        for (int way = 0; way < 3; way++) {
            other.begin(way);
            other.readySteps(0);
            other.thread(1, 0, House.NONE, 0);
            other.turns(0);
            other.thread(1, 1, 5, 0);
            other.readySteps(10);
            other.turns(10);
            other.readySteps(0);
            other.turns(0, 0);
            other.thread(2, 4, House.NONE, 0);
            other.turns(0, 0);
            other.thread(0, 4, House.NONE, 0);
        }
        House wrong = House.of("thread A { join B; } thread B { assert 0; }");
        wrong.begin(0, 10);
        wrong.readySteps();
        House self = House.of("thread A { join A; }");
        self.begin(0);
        self.readySteps();
    }

    private static void blocks() {
        House house = House.of("thread A { if r { r = 1; } else { r = 2; } while r { r = r - 1; if r { } } if 0 { r = 5; } halt; r = 9; }");
        house.begin(0, 0);
        house.thread(0, 1, 2, 0);
        house.turns(0);
        house.thread(0, 1, 3, 0);
        house.turns(0);
        house.thread(0, 1, 4, 0);
        house.turns(0, 0);
        // behind a while's block comes the while again
        house.thread(0, 1, 3, 0);
        house.turns(0, 0, 0, 0);
        house.thread(0, 1, 6, 0);
        house.turns(0);
        house.thread(0, 1, 8, 0);
        house.turns(0);
        house.thread(0, 4, House.NONE, 0);
        House.due("r", house.x.local(0, 0), 0);
        House empty = House.of("thread A { while 1 { } }");
        empty.begin(0, 0, 0);
        empty.thread(0, 1, 0, 0);
        House last = House.of("thread A { if 1 { if 1 { r = 1; } else { } } }");
        last.begin(0, 0, 0, 0);
        last.thread(0, 4, House.NONE, 0);
    }

    private static void buffers() {
        House house = House.of("cell x; cell y; cell v volatile; lock l; thread A { x = 1; x = 2; y = 3; r = x; x = 4; v = 5; }"
            + " thread B { s = x; add x, 1 into s; }");
        TurnHouse x = house.x;
        house.begin(1, 0, 0);
        house.readySteps(0, 9, 10);
        House.due("buffer", x.thread(0, 3), 2);
        House.due("x", x.cell(0), 0);
        house.turns(0);
        House.due("seen by itself", x.seen(0, 0), 2);
        House.due("seen by the other one", x.seen(1, 0), 0);
        house.turns(0);
        House.due("r", x.local(0, 0), 2);
        // three writes are there: no room for a store
        house.readySteps(9, 10);
        house.turns(9);
        House.due("x", x.cell(0), 1);
        House.due("flush", x.step(4, 1), 9);
        House.due("line of a flush", x.step(4, 2), House.NONE);
        house.turns(0, 9, 9);
        House.due("x", x.cell(0), 2);
        House.due("y", x.cell(1), 3);
        // a store to a volatile cell waits for the last write
        house.readySteps(9, 10);
        house.turns(9);
        house.readySteps(0, 10);
        house.turns(0);
        House.due("v", x.cell(2), 5);
        House.due("buffer", x.thread(0, 3), 0);
        house.turns(10, 10);
        House.due("x", x.cell(0), 5);
        String[] strong = {"cas x, 0, 1", "add x, 1", "fence", "lock l", "start B", "v = 1", "unlock l", "wait l", "wake l",
            "wakeall l"};
        for (String statement : strong) {
            House one = House.of("cell x; cell v volatile; lock l; thread A { x = 1; " + statement + "; } thread B later { }");
            one.begin(1, 0);
            one.readySteps(9);
            one.turns(9);
            one.readySteps(0);
        }
        String[] weak = {"r = x", "r = v", "r = 1", "halt", "assert 1", "call w", "reply"};
        for (String statement : weak) {
            House one = House.of("cell x; cell v volatile; thread A { x = 1; " + statement + "; }");
            one.begin(1, 0);
            one.readySteps(0, 9);
            one.turns(0);
            one.thread(0, 4, House.NONE, 0);
            one.readySteps(9);
            one.turns(9);
            House.due("x behind " + statement, one.x.cell(0), 1);
            one.readySteps();
        }
        House plain = House.of("cell x; thread A { x = 1; assert 0; }");
        plain.begin(0, 0, 0);
        House.due("x at once", plain.x.cell(0), 1);
        House.due("no buffer", plain.x.thread(0, 3), 0);
        plain.begin(1, 0, 0);
        plain.thread(0, 5, House.NONE, 4);
        plain.readySteps(9);
    }

    /** The buffers of threads that are not the first go as the first one's. */
    private static void buffersOfOthers() {
        House house = House.of("cell w; cell x; thread A { r = x; } thread B { w = 1; x = 2; x = 3; r = x; w = 4; } thread C { x = 5; r = w; }");
        house.begin(1, 20, 10, 10, 10);
        house.readySteps(0, 10, 19, 20, 29);
        House.due("buffer", house.x.thread(1, 3), 3);
        House.due("buffer", house.x.thread(2, 3), 1);
        House.due("seen", house.x.seen(1, 0), 3);
        House.due("seen", house.x.seen(0, 0), 0);
        house.turns(10);
        // there is no room for a fourth write
        house.readySteps(0, 19, 20, 29);
        house.turns(19, 19);
        House.due("w", house.x.cell(0), 1);
        House.due("x", house.x.cell(1), 2);
        house.turns(29);
        House.due("x", house.x.cell(1), 5);
        house.turns(10, 19, 19);
        House.due("w", house.x.cell(0), 4);
        House.due("x", house.x.cell(1), 3);
        house.readySteps(0, 20);
    }

    private static void bufferedJoin() {
        House house = House.of("cell x; thread A { x = 1; } thread B { join A; }");
        house.begin(1, 0);
        house.readySteps(9);
        house.turns(9);
        house.readySteps(10);
        House waiting = House.of("cell x; lock l; thread A { lock l; wait l; x = 1; } thread B { lock l; x = 2; r = x; wake l; unlock l; }");
        waiting.begin(1, 0, 0, 10, 10, 10);
        waiting.readySteps(19);
        waiting.turns(19, 10);
        // the woken one is ready when the lock is free
        waiting.readySteps(10);
        waiting.turns(10);
        waiting.readySteps(0);
        House full = House.of("cell x; thread A { x = 1; x = 1; x = 1; x = 999 + 1; }");
        full.begin(1, 0, 0, 0);
        // whether a line is ready is asked before whether it goes wrong
        full.readySteps(9);
    }

    private static void views() {
        House house = House.of("cell x; cell v volatile; thread A { x = 1; x = 2; v = 1; x = 3; } thread B { r = x; r = x; s = v; r = x; }");
        TurnHouse x = house.x;
        house.begin(2, 0, 0);
        house.readySteps(0, 10, 11, 12);
        House.due("seen", x.seen(1, 0), 0);
        House.due("seen", x.seen(1, 1), 1);
        House.due("seen", x.seen(1, 2), 2);
        House.due("seen", x.seen(1, 3), House.NO_VALUE);
        House.due("memory", x.cell(0), 2);
        house.turns(11);
        House.due("r", x.local(1, 0), 1);
        // older writes than the one seen are gone
        house.readySteps(0, 10, 11);
        house.turns(10, 0, 0);
        // a volatile cell tells its last write alone, and what its writer had seen
        house.readySteps(10);
        House.due("seen", x.seen(1, 0), 1);
        house.turns(10);
        house.readySteps(10, 11);
        House.due("seen", x.seen(1, 0), 2);
        House.due("seen", x.seen(1, 1), 3);
        House plain = House.of("cell x; cell y; thread A { x = 1; y = 1; } thread B { s = y; r = x; }");
        plain.begin(2, 0, 0, 11);
        // a write of a cell that is not volatile tells nothing of others
        plain.readySteps(10, 11);
        House sums = House.of("cell x; cell y; thread A { x = 1; add y, 1; } thread B { cas y, 1, 2 into s; r = x; }");
        sums.begin(2, 0, 0, 10);
        sums.readySteps(10);
        House.due("seen", sums.x.seen(1, 0), 1);
        House missed = House.of("cell x; cell y; thread A { x = 1; add y, 1; } thread B { cas y, 0, 2 into s; r = x; r = y; }");
        missed.begin(2, 0, 0, 10);
        House.due("s", missed.x.local(1, 0), 0);
        missed.readySteps(10);
        House own = House.of("cell x; thread A { x = 1; r = x; }");
        own.begin(2, 0);
        own.readySteps(0);
        House.due("seen", own.x.seen(0, 0), 1);
    }

    private static void viewsOfSwapsAndSums() {
        // a cas that does not write sees the last write all the same
        House fails = House.of("cell w; cell x; thread A { x = 1; x = 2; } thread B { cas x, 5, 6; r = x; r = w; }");
        fails.begin(2, 0, 0, 10);
        fails.readySteps(10);
        House.due("seen", fails.x.seen(1, 0), 2);
        // one that writes tells what its thread had seen
        House tells = House.of("cell x; cell y; thread A { x = 1; cas y, 0, 1; } thread B { add y, 1 into s; r = x; }");
        tells.begin(2, 0, 0, 10);
        tells.readySteps(10);
        House.due("s", tells.x.local(1, 0), 1);
        House adds = House.of("cell x; cell y; thread A { x = 1; add y, 1; } thread B { add y, 1; r = x; }");
        adds.begin(2, 0, 0, 10);
        adds.readySteps(10);
        // the views of the second cell and of the others stay apart
        House cells = House.of("cell w; cell x; cell y; thread A { x = 1; x = 2; x = 3; y = 1; w = 1; }"
            + " thread B { r = x; r = x; r = y; r = w; r = x; }");
        cells.begin(2, 0, 0, 0, 0, 0, 11, 11);
        House.due("r", cells.x.local(1, 0), 2);
        cells.readySteps(10, 11);
        cells.turns(11);
        cells.readySteps(10, 11);
        cells.turns(11);
        cells.readySteps(10, 11);
        House.due("seen", cells.x.seen(1, 0), 2);
        House.due("seen", cells.x.seen(1, 1), 3);
        // a thread's view goes on from where its own writes are
        House own = House.of("cell x; cell y; thread A { y = 1; x = 1; r = x; r = y; } thread B { x = 2; y = 2; }");
        own.begin(2, 0, 10, 10, 0, 0);
        own.readySteps(0, 1);
        House.due("seen", own.x.seen(0, 0), 1);
        House.due("seen", own.x.seen(0, 1), 2);
    }

    private static void viewsOfLocksAndThreads() {
        House locks = House.of("cell x; lock l; thread A { x = 1; lock l; unlock l; } thread B { lock l; r = x; }");
        locks.begin(2, 0, 0, 0, 10);
        locks.readySteps(10);
        locks.begin(2, 0, 10);
        locks.readySteps(10, 11);
        House waits = House.of("cell x; lock l; thread A { x = 1; lock l; wait l; r = y; } thread B { lock l; r = x; wake l; x = 2; unlock l; }");
        waits.begin(2, 0, 0, 0, 10);
        waits.readySteps(10);
        House woken = House.of("cell x; lock l; thread A { lock l; wait l; r = x; } thread B { lock l; wake l; x = 2; unlock l; }");
        woken.begin(2, 0, 0, 10, 10, 10, 10, 0);
        woken.readySteps(0);
        House.due("seen", woken.x.seen(0, 0), 2);
        House second = House.of("cell x; thread A later { r = x; } thread B { x = 1; start A; }");
        second.begin(2, 10, 10);
        second.readySteps(0);
        House.due("seen", second.x.seen(0, 0), 1);
        House threads = House.of("cell x; thread A { x = 1; start B; x = 2; } thread B later { r = x; x = 3; } thread C { join B; r = x; }");
        threads.begin(2, 0, 0);
        threads.readySteps(0, 10);
        House.due("seen", threads.x.seen(1, 0), 1);
        threads.turns(0);
        threads.readySteps(10, 11);
        threads.turns(10, 10, 20);
        threads.readySteps(20);
        House.due("seen", threads.x.seen(2, 0), 3);
    }

    private static void viewsOfFences() {
        House house = House.of("cell x; thread A { x = 1; fence; } thread B { fence; r = x; }");
        house.begin(2, 0, 0, 10);
        house.readySteps(10);
        house.begin(2, 0, 10, 0);
        house.readySteps(10, 11);
    }

    private static void nineWrites() {
        House house = House.of("cell x; thread A { while 1 { x = 1; } } thread B { x = 999 + 1; } thread C { add x, 999; }"
            + " thread D { cas x, 1, 2; cas x, 0, 2; cas x, 1, 999 + 1; }");
        house.begin(2);
        for (int i = 0; i < 8; i++) {
            house.readySteps(0, 10, 20, 30);
            house.turns(0, 0);
        }
        // there are 9 writes: the first value and 8 more
        house.readySteps(0);
        house.turns(0);
        house.readySteps();
        House other = House.of("cell x; thread A { x = 1; x = 1; x = 1; x = 1; x = 1; x = 1; x = 1; x = 1; cas x, 0, 5 into r;"
            + " cas x, 1, 999 + 1; }");
        other.begin(2, 0, 0, 0, 0, 0, 0, 0, 0);
        other.readySteps(0);
        other.turns(0);
        House.due("r", other.x.local(0, 0), 0);
        other.turns(0);
        other.thread(0, 5, House.NONE, 1);
        House.due("x", other.x.cell(0), 1);
        House last = House.of("cell x; thread A { x = 1; x = 2; x = 3; x = 4; x = 5; x = 6; x = 7; x = 8; } thread B { r = x; }");
        last.begin(2, 0, 0, 0, 0, 0, 0, 0, 0);
        last.readySteps(10, 11, 12, 13, 14, 15, 16, 17, 18);
        last.turns(18);
        House.due("r", last.x.local(1, 0), 8);
    }

    /** A run goes on whatever is explored, judged or read as a law meanwhile. */
    private static void runGoesOn() {
        House house = House.of("cell x; thread A { x = 1; x = 2; }");
        house.begin(0, 0);
        house.x.explore(2, false);
        house.law("may x == 2", 1, 2);
        house.x.rewrite(0, 0);
        House.due("sound", house.x.sound(0), 0);
        House.due("x", house.x.cell(0), 1);
        House.due("turn", house.x.turn(0, 0), 0);
        House.due("x", house.x.cell(0), 2);
    }

    /** Runs of more steps than a number has bits. */
    private static void beforeInLongRuns() {
        House house = House.of("cell x; thread A { while 1 { } } thread B { while 1 { } } thread C { fence; x = 1; } thread D { fence; r = x; }");
        TurnHouse x = house.x;
        x.begin(0);
        for (int i = 0; i < 90; i++) {
            house.turns(0, 10);
        }
        // 180 and 181 are C's, 182 and 183 are D's
        house.turns(20, 20, 30, 30);
        due(x, 0, 2, 1);
        due(x, 0, 178, 1);
        due(x, 1, 178, 0);
        due(x, 1, 179, 1);
        due(x, 64, 178, 1);
        due(x, 65, 178, 0);
        due(x, 129, 179, 1);
        due(x, 128, 179, 0);
        due(x, 178, 180, 0);
        due(x, 52, 181, 0);
        due(x, 180, 182, 1);
        due(x, 180, 183, 1);
        due(x, 181, 183, 0);
        due(x, 181, 182, 0);
        due(x, 182, 180, 0);
        House.due("races", x.runRace(-1, 0), 1);
        House.due("runRace(0, 0)", x.runRace(0, 0), 181);
        House.due("runRace(0, 1)", x.runRace(0, 1), 183);
        house.begin(0, 20, 30, 10);
        due(x, 0, 1, 1);
        due(x, 0, 2, 0);
        due(x, 1, 2, 0);
    }

    private static void before() {
        House house = House.of("cell x; cell v volatile; lock l; thread A { x = 1; v = 1; start B; } thread B later { r = v; s = x; }"
            + " thread C { join B; lock l; unlock l; fence; add x, 1; } thread D { lock l; wait l; fence; q = v; }");
        TurnHouse x = house.x;
        house.begin(0, 30, 30, 0, 0, 0, 10, 10, 20, 20, 20);
        // 0 D lock, 1 D wait, 2 A x, 3 A v, 4 A start, 5 B r = v, 6 B s = x, 7 C join, 8 C lock, 9 C unlock
        due(x, 0, 1, 1);
        due(x, 1, 0, 0);
        due(x, 0, 0, 0);
        due(x, 2, 4, 1);
        due(x, 4, 5, 1);
        due(x, 2, 6, 1);
        due(x, 6, 7, 1);
        due(x, 5, 7, 1);
        due(x, 2, 8, 1);
        due(x, 1, 8, 1);
        due(x, 0, 8, 1);
        due(x, 1, 7, 0);
        due(x, 1, 2, 0);
        House.due("before(10, 0)", x.before(10, 0), House.BAD);
        House.due("before(0, 10)", x.before(0, 10), House.BAD);
        House.due("before(-1, 0)", x.before(-1, 0), House.BAD);
        House.due("before(0, -1)", x.before(0, -1), House.BAD);
        house.turns(20);
        House woken = House.of("lock l; thread A { lock l; wait l; } thread B { lock l; wake l; unlock l; }");
        woken.begin(0, 0, 0, 10, 10, 10, 0);
        due(woken.x, 4, 5, 1);
        due(woken.x, 3, 5, 1);
        due(woken.x, 1, 2, 1);
        House cells = House.of("cell x; cell y; cell v volatile; thread A { x = 1; v = 1; add y, 1; cas y, 5, 6; fence; r = v; }"
            + " thread B { r = x; r = v; add x, 1; cas y, 0, 1; fence; v = 2; }");
        cells.begin(0, 0, 10);
        due(cells.x, 0, 1, 0);
        cells.turns(0, 10);
        due(cells.x, 2, 3, 1);
        due(cells.x, 0, 3, 1);
        due(cells.x, 1, 2, 0);
        House sums = House.of("cell x; thread A { add x, 1; } thread B { cas x, 5, 6; } thread C { r = x; } thread D { x = 1; }");
        sums.begin(0, 0, 10, 20, 30);
        due(sums.x, 0, 1, 1);
        due(sums.x, 0, 2, 0);
        due(sums.x, 0, 3, 0);
        due(sums.x, 1, 3, 0);
        House fences = House.of("thread A { fence; } thread B { fence; }");
        fences.begin(0, 10, 0);
        due(fences.x, 0, 1, 1);
        House flush = House.of("cell x; thread A { x = 1; r = 1; } thread B { fence; }");
        flush.begin(1, 0, 9, 0);
        due(flush.x, 0, 1, 0);
        due(flush.x, 1, 2, 0);
        due(flush.x, 0, 2, 1);
        House wrong = House.of("lock l; thread A { unlock l; } thread B { lock l; }");
        wrong.begin(0, 0, 10);
        due(wrong.x, 0, 1, 0);
        House loads = House.of("cell v volatile; thread A { r = v; } thread B { v = 1; } thread C { add v, 1; }");
        loads.begin(0, 0, 10, 20);
        due(loads.x, 0, 1, 0);
        due(loads.x, 0, 2, 0);
        due(loads.x, 1, 2, 1);
    }

    private static void due(TurnHouse x, int i, int j, int due) {
        House.due("before(" + i + ", " + j + ")", x.before(i, j), due);
    }

    private static void runRaces() {
        House house = House.of("cell x; cell y; cell v volatile; thread A { x = 1; r = y; v = 1; add y, 1; }"
            + " thread B { r = x; y = 2; v = 2; cas y, 0, 1; x = 999 + 1; }");
        house.begin(0, 0, 0, 10, 10);
        TurnHouse x = house.x;
        House.due("races", x.runRace(-1, 0), 2);
        House.due("races", x.runRace(-1, 1), 2);
        House.due("runRace(-1, 2)", x.runRace(-1, 2), House.BAD);
        House.due("runRace(0, 0)", x.runRace(0, 0), 0);
        House.due("runRace(0, 1)", x.runRace(0, 1), 2);
        House.due("runRace(1, 0)", x.runRace(1, 0), 1);
        House.due("runRace(1, 1)", x.runRace(1, 1), 3);
        House.due("runRace(2, 0)", x.runRace(2, 0), House.BAD);
        House.due("runRace(-2, 0)", x.runRace(-2, 0), House.BAD);
        House.due("runRace(0, 2)", x.runRace(0, 2), House.BAD);
        House.due("runRace(0, -1)", x.runRace(0, -1), House.BAD);
        // 4 A v = 1, 5 A add y, 6 B v = 2, 7 B cas y, 8 B goes wrong
        house.turns(0, 0, 10, 10, 10);
        // the add is before the cas, so that the load is, too
        House.due("races", x.runRace(-1, 0), 3);
        House.due("runRace(2, 0)", x.runRace(2, 0), 3);
        House.due("runRace(2, 1)", x.runRace(2, 1), 5);
        House loads = House.of("cell x; thread A { r = x; } thread B { r = x; } thread C { add x, 1; } thread D { add x, 1; }");
        loads.begin(0, 0, 10, 20, 30);
        House.due("races", loads.x.runRace(-1, 0), 4);
        House.due("runRace(3, 0)", loads.x.runRace(3, 0), 1);
        House.due("runRace(3, 1)", loads.x.runRace(3, 1), 3);
    }
}
