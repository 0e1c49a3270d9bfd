/** Edges of section 7 and of promises 16 to 19: each test goes by one sentence of the document. */
public final class HistoryEdgesTest {
    private static final int[] OTHERS = {-2, -100, Integer.MIN_VALUE, Integer.MAX_VALUE, 200};

    public static void main(String[] args) {
        beforeOfOneThread();
        beforeByStart();
        beforeByJoin();
        beforeByLocks();
        beforeByCells();
        beforeByFences();
        beforeByOthers();
        beforeOfFlushes();
        beforeOfWrongSteps();
        beforeNoneSuch();
        racesOfTheRun();
        racesInOrder();
        racesOfFlushesAndWrongSteps();
        runRaceNoneSuch();
        callsAndReplies();
        callsWithoutReply();
        brokenByCalls();
        brokenByReplies();
        brokenByWords();
        cell();
        sum();
        stack();
        row();
        emptyAtFirst();
        notAheadOfOneThatReplied();
        firstOrder();
        orderEndsWithTheReplies();
        twelveCalls();
        brokenAheadOfFull();
        linearNoneSuch();
        orderedStays();
        orderedNoneSuch();
        House.finish();
    }

    private static void before(House house, int i, int j, int due) {
        House.due("before(" + i + ", " + j + ")", house.x.before(i, j), due);
        if (i != j) {
            House.due("before(" + j + ", " + i + ")", house.x.before(j, i), 0);
        }
    }

    private static House run(String program, int way, int... steps) {
        House house = House.of(program);
        house.begin(way, steps);
        return house;
    }

    private static void beforeOfOneThread() {
        House.sentence("step i is before a later step j, if they are of one thread");
        House house = run("thread A { r = 1; fence; halt; } thread B { r = 1; r = 2; }", 0, 0, 10, 0, 10, 0);
        before(house, 0, 2, 1);
        before(house, 0, 4, 1);
        before(house, 2, 4, 1);
        before(house, 1, 3, 1);
        before(house, 0, 1, 0);
        before(house, 0, 3, 0);
        before(house, 1, 2, 0);
        before(house, 1, 4, 0);
        for (int i = 0; i < 5; i++) {
            before(house, i, i, 0);
        }
    }

    private static void beforeByStart() {
        House.sentence("if i starts the thread of j");
        House house = run("thread A { r = 1; start C; r = 2; } thread B { r = 1; } thread C later { r = 1; r = 2; }", 0, 0, 10, 0, 0, 20, 20);
        before(house, 2, 4, 1);
        before(house, 2, 5, 1);
        before(house, 0, 4, 1);
        before(house, 3, 4, 0);
        before(house, 3, 5, 0);
        before(house, 1, 4, 0);
        // a start that goes wrong starts nothing
        House wrong = run("thread A { start B; } thread B { r = 1; }", 0, 0, 10);
        before(wrong, 0, 1, 0);
        House second = run("thread A { start C; } thread B { start C; } thread C later { r = 1; }", 0, 0, 10, 20);
        before(second, 0, 2, 1);
        before(second, 1, 2, 0);
    }

    private static void beforeByJoin() {
        House.sentence("if j is a join of the thread of i");
        House house = run("thread A { join B; r = 1; } thread B { r = 1; r = 2; } thread C { r = 1; }", 0, 10, 20, 10, 0, 0);
        before(house, 0, 3, 1);
        before(house, 2, 3, 1);
        before(house, 0, 4, 1);
        before(house, 1, 3, 0);
        before(house, 1, 4, 0);
        // the number of a thread joined is that of another's cell, or lock, too
        House numbers = run("lock l; cell x volatile; cell y volatile; thread A { lock l; x = 1; } thread B { join A; r = x; } thread C { join A; r = y; }", 0,
            0, 0, 10, 20, 10, 20);
        before(numbers, 1, 4, 1);
        before(numbers, 2, 5, 0);
        before(numbers, 2, 3, 0);
    }

    private static void beforeByLocks() {
        House.sentence("if i is an unlock or wait, and j a taking of the same lock (of a WOKEN one, too) later");
        House house = run("lock k; lock l; thread A { lock l; unlock l; } thread B { lock l; unlock l; } thread C { lock k; }", 0, 0, 0, 20, 10, 10);
        before(house, 1, 3, 1);
        before(house, 0, 3, 1);
        before(house, 1, 2, 0);
        before(house, 2, 3, 0);
        House waits = run("lock l; thread A { lock l; wait l; } thread B { lock l; wake l; unlock l; } thread C { fence; }", 0, 0, 0, 20, 10, 10, 10, 0);
        before(waits, 1, 3, 1);
        before(waits, 5, 6, 1);
        before(waits, 4, 6, 1);
        before(waits, 2, 6, 0);
        // a taking later: not one ahead of it; a lock is before no other taking, a wake before no woken one
        House two = run("lock l; lock m; thread A { lock l; wait l; } thread B { lock l; wake l; wait l; } thread C { lock l; unlock l; wake m; }", 0,
            0, 0, 10, 10, 10, 0);
        before(two, 4, 5, 1);
        before(two, 1, 2, 1);
        House wake = run("lock l; lock m; thread A { lock l; wait l; } thread B { lock l; wakeall l; wait l; } thread C { lock l; unlock l; }", 0,
            0, 0, 10, 10, 10, 20, 20, 0);
        before(wake, 5, 7, 1);
        before(wake, 6, 7, 1);
        before(wake, 1, 5, 1);
        // any unlock, also where the lock is held still: those of others come behind the last one
        House often = run("lock l; thread A { lock l; lock l; unlock l; unlock l; } thread B { lock l; }", 0, 0, 0, 0, 0, 10);
        before(often, 2, 4, 1);
        before(often, 3, 4, 1);
        // of another lock
        House other = run("lock k; lock l; thread A { lock l; unlock l; lock k; wait k; } thread B { lock l; } thread C { lock k; }", 0, 0, 0, 0, 0, 10, 20);
        before(other, 3, 4, 0);
        before(other, 1, 4, 1);
        before(other, 3, 5, 1);
        before(other, 4, 5, 0);
    }

    private static void beforeByCells() {
        House.sentence("i a STORE of a volatile cell, or a cas, add of any, and j a LOAD of a volatile one, or a cas, add of any, of the same cell later");
        String[] firsts = {"r = v;", "v = 1;", "cas v, 0, 1;", "cas v, 5, 1;", "add v, 1;"};
        int[][] ofVolatile = {{0, 0, 0, 0, 0}, {1, 0, 1, 1, 1}, {1, 0, 1, 1, 1}, {1, 0, 1, 1, 1}, {1, 0, 1, 1, 1}};
        int[][] ofPlain = {{0, 0, 0, 0, 0}, {0, 0, 0, 0, 0}, {0, 0, 1, 1, 1}, {0, 0, 1, 1, 1}, {0, 0, 1, 1, 1}};
        for (int i = 0; i < 5; i++) {
            for (int k = 0; k < 5; k++) {
                for (int way = 0; way < 3; way += 2) {
                    before(run("cell v volatile; thread A { " + firsts[i] + " } thread B { " + firsts[k] + " }", way, 0, 10), 0, 1, ofVolatile[i][k]);
                    before(run("cell v; thread A { " + firsts[i] + " } thread B { " + firsts[k] + " }", way, 0, 10), 0, 1, ofPlain[i][k]);
                    String other = firsts[k].replace('v', 'w');
                    before(run("cell w volatile; cell v volatile; thread A { " + firsts[i] + " } thread B { " + other + " }", way, 0, 10), 0, 1, 0);
                    before(run("cell w; cell v; thread A { " + firsts[i] + " } thread B { " + other + " }", way, 0, 10), 0, 1, 0);
                }
            }
        }
    }

    private static void beforeByFences() {
        House.sentence("i and j are fences");
        House house = run("thread A { fence; r = 1; fence; } thread B { r = 1; fence; r = 2; } thread C { fence; }", 0, 0, 10, 0, 10, 20, 10, 0);
        before(house, 0, 3, 1);
        before(house, 0, 4, 1);
        before(house, 0, 5, 1);
        before(house, 2, 3, 0);
        before(house, 1, 4, 1);
        before(house, 1, 2, 0);
        before(house, 5, 6, 0);
        before(house, 1, 6, 1);
        before(house, 4, 6, 1);
    }

    private static void beforeByOthers() {
        House.sentence("or by others in between");
        House house = run("cell v volatile; lock l; thread A { r = 1; v = 1; } thread B { r = v; lock l; unlock l; } thread C { lock l; start D; } thread D later { fence; }",
            0, 0, 0, 10, 10, 10, 20, 20, 30);
        for (int i = 0; i < 8; i++) {
            for (int j = i + 1; j < 8; j++) {
                before(house, i, j, 1);
            }
        }
    }

    private static void beforeOfFlushes() {
        House.sentence("(FLUSHES are before nothing, and nothing is before them.)");
        House house = run("cell x; cell v volatile; thread A { x = 1; fence; v = 1; } thread B { r = v; fence; }", 1, 0, 9, 0, 0, 10, 10);
        for (int i = 0; i < 6; i++) {
            before(house, i, 1, 0);
            before(house, 1, i, 0);
        }
        before(house, 0, 2, 1);
        before(house, 0, 4, 1);
        before(house, 2, 5, 1);
    }

    private static void beforeOfWrongSteps() {
        House.sentence("in 7 it is a STEP of its thread, and touches, takes, tells nothing.");
        String[] wrongs = {"unlock l;", "wait l;", "wake l;", "add x, 999 + 1;", "cas x, 999 + 1, 1;", "v = 999 + 1;", "start B;"};
        String[] others = {"lock l;", "lock l;", "lock l;", "add x, 0;", "cas x, 0, 1;", "r = v;", "r = 1;"};
        for (int i = 0; i < wrongs.length; i++) {
            House house = run("cell x; cell v volatile; lock l; thread A { r = 1; " + wrongs[i] + " } thread B { " + others[i] + " }", 0, 0, 0, 10);
            before(house, 0, 1, 1);
            before(house, 1, 2, 0);
            before(house, 0, 2, 0);
            house = run("cell x; cell v volatile; lock l; thread A { r = 1; " + wrongs[i] + " } thread B { " + others[i] + " }", 0, 10, 0, 0);
            before(house, 0, 2, 0);
        }
        House tenth = run("lock l; thread A { lock l; wait l; } thread B { " + House.times(10, "lock l; ") + "}", 0, 0, 0, 10, 10, 10, 10, 10, 10, 10, 10, 10, 10);
        before(tenth, 1, 11, 1);
        before(tenth, 2, 11, 1);
    }

    private static void beforeNoneSuch() {
        House.sentence("Whether STEP i of the run is BEFORE STEP j. BAD: no run, none such.");
        House none = House.of("thread A { fence; fence; }");
        House.due("without a run", none.x.before(0, 0), House.BAD);
        none.x.begin(0);
        House.due("without a step", none.x.before(0, 0), House.BAD);
        none.turns(0);
        House.due("before(0, 0)", none.x.before(0, 0), 0);
        House.due("before(0, 1)", none.x.before(0, 1), House.BAD);
        House.due("before(1, 0)", none.x.before(1, 0), House.BAD);
        none.turns(0);
        House.due("before(0, 1)", none.x.before(0, 1), 1);
        House.due("before(1, 0)", none.x.before(1, 0), 0);
        House.due("before(0, 2)", none.x.before(0, 2), House.BAD);
        House.due("before(2, 0)", none.x.before(2, 0), House.BAD);
        House.due("before(-1, 0)", none.x.before(-1, 0), House.BAD);
        House.due("before(0, -1)", none.x.before(0, -1), House.BAD);
        for (int other : OTHERS) {
            House.due("before(" + other + ", 0)", none.x.before(other, 0), House.BAD);
            House.due("before(0, " + other + ")", none.x.before(0, other), House.BAD);
        }
        // 200 steps
        House loop = House.of("thread A { while 1 { } } thread B { while 1 { } }");
        loop.x.begin(0);
        for (int i = 0; i < 100; i++) {
            loop.x.turn(0, 0);
            loop.x.turn(1, 0);
        }
        before(loop, 0, 198, 1);
        before(loop, 1, 199, 1);
        before(loop, 63, 65, 1);
        before(loop, 63, 64, 0);
        before(loop, 64, 128, 1);
        before(loop, 127, 128, 0);
        before(loop, 191, 193, 1);
        before(loop, 0, 199, 0);
        House.due("before(0, 200)", loop.x.before(0, 200), House.BAD);
        House.due("before(199, 199)", loop.x.before(199, 199), 0);
    }

    private static void races(House house, int[]... due) {
        House.due("runRace(-1, 0)", house.x.runRace(-1, 0), due.length);
        House.due("runRace(-1, 1)", house.x.runRace(-1, 1), due.length);
        for (int k = 0; k < due.length; k++) {
            House.due("runRace(" + k + ", 0)", house.x.runRace(k, 0), due[k][0]);
            House.due("runRace(" + k + ", 1)", house.x.runRace(k, 1), due[k][1]);
        }
        House.due("runRace(" + due.length + ", 0)", house.x.runRace(due.length, 0), House.BAD);
        House.due("runRace(" + due.length + ", 1)", house.x.runRace(due.length, 1), House.BAD);
    }

    private static void racesOfTheRun() {
        House.sentence("A RACE of the run: two steps of which none is before the other one that touch a cell as told.");
        String[] lines = {"r = @;", "@ = 1;", "cas @, 0, 1;", "add @, 1;"};
        int[][] due = {{0, 1, 1, 1}, {1, 1, 1, 1}, {1, 1, 0, 0}, {1, 1, 0, 0}};
        for (int i = 0; i < 4; i++) {
            for (int k = 0; k < 4; k++) {
                for (String cells : new String[] {"xx", "xy", "vv", "yx"}) {
                    String a = lines[i].replace('@', cells.charAt(0)), b = lines[k].replace('@', cells.charAt(1));
                    House house = run("cell x; cell y; cell v volatile; thread A { " + a + " } thread B { " + b + " }", 0, 0, 10);
                    if (cells.equals("xx") && due[i][k] == 1) {
                        races(house, new int[] {0, 1});
                    } else {
                        races(house);
                    }
                }
            }
        }
        // parted by a lock, a volatile cell, a start: none
        races(run("cell x; lock l; thread A { lock l; x = 1; unlock l; } thread B { lock l; x = 2; unlock l; }", 0, 0, 0, 0, 10, 10, 10));
        races(run("cell x; cell v volatile; thread A { x = 1; v = 1; } thread B { r = v; r = x; }", 0, 0, 0, 10, 10));
        races(run("cell x; cell v volatile; thread A { x = 1; v = 1; } thread B { r = v; r = x; }", 0, 0, 10, 0, 10), new int[] {0, 3});
        races(run("cell x; thread A { x = 1; start B; } thread B later { x = 2; }", 0, 0, 0, 10));
        races(run("cell x; thread A { x = 1; x = 2; r = x; add x, 1; }", 0, 0, 0, 0, 0));
    }

    private static void racesInOrder() {
        House.sentence("The k-th RACE of the run, by the later step, then the earlier one");
        races(run("cell x; thread A { x = 1; x = 2; } thread B { r = x; x = 3; } thread C { r = x; }", 0, 0, 20, 10, 0, 10),
            new int[] {0, 1}, new int[] {0, 2}, new int[] {1, 3}, new int[] {2, 3}, new int[] {0, 4}, new int[] {1, 4}, new int[] {3, 4});
    }

    private static void racesOfFlushesAndWrongSteps() {
        House.sentence("(a FLUSH touches no cell, nor does a STEP by which a thread goes WRONG)");
        races(run("cell x; thread A { x = 1; } thread B { x = 2; }", 1, 0, 9, 10, 19), new int[] {0, 2});
        races(run("cell x; thread A { x = 999 + 1; } thread B { x = 2; }", 0, 0, 10));
        races(run("cell x = 999; thread A { add x, 1; } thread B { r = x; }", 0, 10, 0));
        races(run("cell x; thread A { cas x, 0, 999 + 1; } thread B { r = x; }", 0, 10, 0));
    }

    private static void runRaceNoneSuch() {
        House.sentence("runRace: k = - 1 (and 0 or 1): how many. BAD: no run, none such, another number.");
        House house = House.of("cell x; thread A { x = 1; } thread B { x = 2; }");
        House.due("without a run", house.x.runRace(-1, 0), House.BAD);
        house.x.begin(0);
        races(house);
        house.turns(0, 10);
        races(house, new int[] {0, 1});
        House.due("runRace(0, 2)", house.x.runRace(0, 2), House.BAD);
        House.due("runRace(0, -1)", house.x.runRace(0, -1), House.BAD);
        House.due("runRace(-1, 2)", house.x.runRace(-1, 2), House.BAD);
        House.due("runRace(-1, -1)", house.x.runRace(-1, -1), House.BAD);
        for (int other : OTHERS) {
            House.due("runRace(" + other + ", 0)", house.x.runRace(other, 0), House.BAD);
            House.due("runRace(0, " + other + ")", house.x.runRace(0, other), House.BAD);
            House.due("runRace(-1, " + other + ")", house.x.runRace(-1, other), House.BAD);
        }
    }

    private static House history(String a, String b, String c, int... steps) {
        return run("thread A { " + a + " } thread B { " + b + " } thread C { " + c + " }", 0, steps);
    }

    private static void linear(House house, int structure, int due) {
        House.due("linear(" + structure + ")", house.x.linear(structure), due);
    }

    private static void ordered(House house, int... due) {
        for (int i = 0; i < due.length; i++) {
            House.due("ordered(" + i + ")", house.x.ordered(i), due[i]);
        }
        House.due("ordered(" + due.length + ")", house.x.ordered(due.length), House.NONE);
    }

    private static void callsAndReplies() {
        House.sentence("a thread's call (with a word, and a value, 0 without) and its next reply (a value, 0 without) are one CALL, from the one step to the other");
        House house = history("call write; reply; call read; reply; call write 3; reply 0; call read 7; reply 3;", "", "", 0, 0, 0, 0, 0, 0, 0, 0);
        linear(house, 0, 1);
        ordered(house, 0, 1, 2, 3);
        linear(history("call write 3; reply; call read; reply;", "", "", 0, 0, 0, 0), 0, 0);
        linear(history("call write 3; reply; call read; reply 3;", "", "", 0, 0, 0, 0), 0, 1);
        // other steps between them are no matter
        linear(history("call write 3; r = 5; fence; reply; call read; r = 3; reply r;", "", "", 0, 0, 0, 0, 0, 0, 0), 0, 1);
        // values are told when they were called
        House values = history("r = - 999; call write r; r = 1; reply; call read; reply - 999;", "", "", 0, 0, 0, 0, 0, 0);
        linear(values, 0, 1);
        // from the one step to the other: both reads may come at the write's begin or its end
        for (int value = 0; value < 2; value++) {
            linear(history("call write 1; reply;", "call read; reply " + value + ";", "", 0, 10, 10, 0), 0, 1);
            linear(history("call write 1; reply;", "call read; reply " + value + ";", "", 0, 10, 0, 10), 0, 1);
            linear(history("call write 1; reply;", "call read; reply " + value + ";", "", 10, 0, 0, 10), 0, 1);
            linear(history("call write 1; reply;", "call read; reply " + value + ";", "", 10, 0, 10, 0), 0, 1);
            linear(history("call write 1; reply;", "call read; reply " + value + ";", "", 0, 0, 10, 10), 0, value);
            linear(history("call write 1; reply;", "call read; reply " + value + ";", "", 10, 10, 0, 0), 0, 1 - value);
        }
    }

    private static void callsWithoutReply() {
        House.sentence("a call without reply may have done its work or not, with any value");
        linear(history("call write 5;", "call read; reply 5;", "", 0, 10, 10), 0, 1);
        linear(history("call write 5;", "call read; reply;", "", 0, 10, 10), 0, 1);
        linear(history("call write 5;", "call read; reply 4;", "", 0, 10, 10), 0, 0);
        linear(history("call push 5;", "call pop; reply 5; call pop; reply - 1;", "", 0, 10, 10, 10, 10), 2, 1);
        linear(history("call push 5;", "call pop; reply - 1; call pop; reply 5;", "", 0, 10, 10, 10, 10), 2, 1);
        linear(history("call push 5;", "call pop; reply 5; call pop; reply 5;", "", 0, 10, 10, 10, 10), 2, 0);
        linear(history("call pop;", "call push 5; reply; call pop; reply - 1;", "", 0, 10, 10, 10, 10), 2, 1);
        linear(history("call plus 5;", "call plus 1; reply 5;", "call plus 1; reply 6;", 0, 10, 10, 20, 20), 1, 1);
        // it can't have done its work ahead of its begin
        linear(history("fence; call write 5;", "call read; reply 5;", "", 10, 10, 0, 0), 0, 0);
        linear(history("fence; call write 5;", "call read; reply 5;", "", 10, 0, 0, 10), 0, 1);
    }

    private static void brokenByCalls() {
        House.sentence("a call behind a call without a reply in between makes the history BROKEN");
        linear(history("call read; call read;", "", "", 0, 0), 0, House.NONE);
        linear(history("call read; reply; call read; call read; reply;", "", "", 0, 0, 0, 0, 0), 0, House.NONE);
        // not yet, and not by another thread's
        linear(history("call read; call read;", "", "", 0), 0, 1);
        linear(history("call read;", "call read;", "call read;", 0, 10, 20), 0, 1);
        // a call that goes wrong is none
        linear(history("call read; call read 999 + 1;", "", "", 0, 0), 0, 1);
    }

    private static void brokenByReplies() {
        House.sentence("a reply without one makes the history BROKEN");
        linear(history("reply;", "", "", 0), 0, House.NONE);
        linear(history("call read; reply; reply;", "", "", 0, 0, 0), 0, House.NONE);
        linear(history("call read;", "reply;", "", 0, 10), 0, House.NONE);
        linear(history("call read; reply; reply;", "", "", 0, 0), 0, 1);
        linear(history("reply 999 + 1;", "", "", 0), 0, 1);
        linear(history("call push 999 + 1;", "", "", 0), 0, 1);
    }

    private static void brokenByWords() {
        House.sentence("A word that the structure has not: BROKEN.");
        String[] words = {"write", "read", "plus", "push", "pop", "put", "get", "other", "Read", "reads", "rea", "x"};
        String[] of = {"write read", "plus read", "push pop", "put get"};
        for (String word : words) {
            House house = history("call " + word + ";", "", "", 0);
            for (int structure = 0; structure < 4; structure++) {
                boolean has = (" " + of[structure] + " ").contains(" " + word + " ");
                linear(house, structure, has ? 1 : House.NONE);
            }
        }
        // also where it has no reply, and behind others
        linear(history("call read; reply; call push 1;", "", "", 0, 0, 0), 0, House.NONE);
        linear(history("call push 1; reply;", "call read; reply 9;", "", 10, 10, 0), 0, House.NONE);
    }

    private static void cell() {
        House.sentence("0 a cell: write v (gives 0), read");
        linear(history("call write 5; reply 0; call write - 5; reply; call read; reply - 5;", "", "", 0, 0, 0, 0, 0, 0), 0, 1);
        linear(history("call write 5; reply 5;", "", "", 0, 0), 0, 0);
        linear(history("call write 5; reply 1;", "", "", 0, 0), 0, 0);
        linear(history("call write 5; reply; call read; reply 5; call read; reply 5;", "", "", 0, 0, 0, 0, 0, 0), 0, 1);
    }

    private static void sum() {
        House.sentence("1 a sum: plus v (gives what it was), read");
        linear(history("call plus 5; reply; call plus - 7; reply 5; call plus; reply - 2; call read; reply - 2;", "", "", 0, 0, 0, 0, 0, 0, 0, 0), 1, 1);
        linear(history("call plus 5; reply 5;", "", "", 0, 0), 1, 0);
        linear(history("call plus 5; reply; call read; reply 0;", "", "", 0, 0, 0, 0), 1, 0);
    }

    private static void stack() {
        House.sentence("2 a stack: push v (0), pop (- 1 if empty)");
        linear(history("call push 5; reply 0; call push 6; reply; call pop; reply 6; call pop; reply 5; call pop; reply - 1;", "", "",
            0, 0, 0, 0, 0, 0, 0, 0, 0, 0), 2, 1);
        linear(history("call push 5; reply 5;", "", "", 0, 0), 2, 0);
        linear(history("call push 5; reply; call push 6; reply; call pop; reply 5;", "", "", 0, 0, 0, 0, 0, 0), 2, 0);
        linear(history("call pop; reply - 1; call push - 1; reply; call pop; reply - 1; call pop; reply - 1;", "", "", 0, 0, 0, 0, 0, 0, 0, 0), 2, 1);
        linear(history("call push 5; reply; call pop; reply - 1;", "", "", 0, 0, 0, 0), 2, 0);
        // twelve pushes fit
        House many = run("thread A { " + House.times(12, "call push 1; reply; ") + "}", 0, new int[24]);
        linear(many, 2, 1);
    }

    private static void row() {
        House.sentence("3 a row: put v (0), get (- 1 if empty)");
        linear(history("call put 5; reply 0; call put 6; reply; call get; reply 5; call get; reply 6; call get; reply - 1;", "", "",
            0, 0, 0, 0, 0, 0, 0, 0, 0, 0), 3, 1);
        linear(history("call put 5; reply 5;", "", "", 0, 0), 3, 0);
        linear(history("call put 5; reply; call put 6; reply; call get; reply 6;", "", "", 0, 0, 0, 0, 0, 0), 3, 0);
        linear(history("call put 5; reply; call get; reply 5; call put 6; reply; call put 7; reply; call get; reply 6;", "", "",
            0, 0, 0, 0, 0, 0, 0, 0, 0, 0), 3, 1);
    }

    private static void emptyAtFirst() {
        House.sentence("All are empty, 0 at first.");
        int[] due = {0, 0, -1, -1};
        String[] words = {"read", "read", "pop", "get"};
        for (int structure = 0; structure < 4; structure++) {
            for (int value = -1; value < 2; value++) {
                linear(history("call " + words[structure] + "; reply " + (value < 0 ? "- 1" : value) + ";", "", "", 0, 0), structure,
                    value == due[structure] ? 1 : 0);
            }
            linear(history("", "", ""), structure, 1);
        }
        // and again with each linear()
        House house = history("call plus 5; reply;", "", "", 0, 0);
        linear(house, 1, 1);
        linear(house, 1, 1);
    }

    private static void notAheadOfOneThatReplied() {
        House.sentence("can be put in one order in which no CALL comes ahead of one that had its reply before it began");
        linear(history("call write 1; reply;", "call write 2; reply;", "call read; reply 1;", 0, 0, 10, 10, 20, 20), 0, 0);
        linear(history("call write 1; reply;", "call write 2; reply;", "call read; reply 1;", 0, 10, 10, 0, 20, 20), 0, 1);
        linear(history("call write 1; reply;", "call write 2; reply;", "call read; reply 1;", 0, 0, 10, 20, 20, 10), 0, 1);
        linear(history("call read; reply 1; call read; reply 0;", "call write 1; reply;", "", 10, 0, 0, 0, 0, 10), 0, 0);
        linear(history("call read; reply 0; call read; reply 1;", "call write 1; reply;", "", 10, 0, 0, 0, 0, 10), 0, 1);
        // two readers that saw two writes in two orders
        linear(run("thread A { call write 1; reply; } thread B { call write 2; reply; } thread C { call read; reply 1; call read; reply 2; }"
            + " thread D { call read; reply 2; call read; reply 1; }", 0, 0, 10, 20, 30, 20, 30, 20, 30, 20, 30, 0, 10), 0, 0);
    }

    private static void firstOrder() {
        House.sentence("The ORDER told is the first: each next CALL the one that began earliest of all that can be next, so that the rest goes");
        House any = history("call read; reply;", "call read; reply;", "call read; reply;", 20, 0, 10, 0, 10, 20);
        linear(any, 0, 1);
        ordered(any, 0, 1, 2);
        // calls are numbered by where they began: C, then A, then B
        House writes = history("call write 1; reply;", "call read; reply 1;", "call read; reply 0;", 20, 0, 10, 20, 0, 10);
        linear(writes, 0, 1);
        ordered(writes, 0, 1, 2);
        House late = history("call write 1; reply;", "call read; reply;", "call read; reply 1;", 0, 10, 20, 0, 10, 20);
        linear(late, 0, 1);
        ordered(late, 1, 0, 2);
        // the first could be next, but the rest would not go
        House stack = history("call push 1; reply;", "call push 2; reply;", "call pop; reply 1;", 0, 10, 20, 0, 10, 20);
        linear(stack, 2, 1);
        ordered(stack, 0, 2, 1);
        House two = history("call push 1; reply;", "call push 2; reply;", "call pop; reply 1; call pop; reply 2;", 0, 10, 10, 0, 20, 20, 20, 20);
        linear(two, 2, 1);
        ordered(two, 1, 0, 2, 3);
    }

    private static void orderEndsWithTheReplies() {
        House.sentence("it ends when all CALLS with a reply are in it.");
        House none = history("call write 1;", "call write 2;", "", 0, 10);
        linear(none, 0, 1);
        ordered(none);
        House behind = history("call read; reply;", "call write 2;", "", 0, 0, 10);
        linear(behind, 0, 1);
        ordered(behind, 0);
        // one without a reply that began earlier is put ahead, where it can be
        House ahead = history("call read; reply;", "call read;", "", 10, 0, 0);
        linear(ahead, 0, 1);
        ordered(ahead, 0, 1);
        House spoils = history("call read; reply;", "call write 2;", "", 10, 0, 0);
        linear(spoils, 0, 1);
        ordered(spoils, 1);
        House two = history("call read; reply;", "call write 2;", "call read;", 20, 10, 0, 0);
        linear(two, 0, 1);
        ordered(two, 0, 2);
    }

    private static void twelveCalls() {
        House.sentence("else FULL: more than 12 CALLS.");
        String[] changes = {"write", "plus", "push", "put"};
        for (int structure = 0; structure < 4; structure++) {
            String calls = "";
            for (int i = 0; i < 13; i++) {
                calls += "call " + changes[structure] + "; reply; ";
            }
            House house = run("thread A { " + calls + "}", 0, new int[24]);
            linear(house, structure, 1);
            ordered(house, 0, 1, 2, 3, 4, 5, 6, 7, 8, 9, 10, 11);
            house.turns(0);
            linear(house, structure, House.FULL);
            house.turns(0);
            linear(house, structure, House.FULL);
            ordered(house, 0, 1, 2, 3, 4, 5, 6, 7, 8, 9, 10, 11);
        }
        // calls without a reply count among them
        String twice = "call get; reply - 1; ";
        House open = run("thread A { " + House.times(12, twice) + "} thread B { call put 1; } thread C { call put 1; }", 0, new int[22]);
        linear(open, 3, 1);
        open.turns(10);
        linear(open, 3, 1);
        open.turns(20);
        linear(open, 3, House.FULL);
    }

    private static void brokenAheadOfFull() {
        House.sentence("NONE BROKEN; else FULL");
        House house = run("thread A { " + House.times(13, "call put 1; reply; ") + "call put 1; call put 1; }", 0, new int[26]);
        linear(house, 3, House.FULL);
        linear(house, 2, House.NONE);
        house.turns(0);
        linear(house, 3, House.FULL);
        house.turns(0);
        linear(house, 3, House.NONE);
    }

    private static void linearNoneSuch() {
        House.sentence("linear: BAD: no run, no structure.");
        House none = new House();
        House house = House.of("thread A { call read; reply; }");
        for (int structure = 0; structure < 4; structure++) {
            linear(none, structure, House.BAD);
            linear(house, structure, House.BAD);
        }
        house.begin(0, 0, 0);
        int[] others = {-1, 4, 5, 100, Integer.MIN_VALUE, Integer.MAX_VALUE};
        for (int other : others) {
            linear(house, other, House.BAD);
        }
        linear(house, 0, 1);
        linear(house, 3, House.NONE);
    }

    private static void orderedStays() {
        House.sentence("in the ORDER of the last linear() that answered 1 (whatever was begun or read since).");
        House house = history("call write 1; reply;", "call read; reply;", "", 0, 10, 0, 10);
        ordered(house);
        linear(house, 0, 1);
        ordered(house, 1, 0);
        linear(house, 1, House.NONE);
        ordered(house, 1, 0);
        linear(house, 7, House.BAD);
        ordered(house, 1, 0);
        house.x.begin(1);
        ordered(house, 1, 0);
        house.begin(2, 0, 0, 10, 10);
        linear(house, 0, 0);
        ordered(house, 1, 0);
        House.due("program with a fault", house.read("cell"), 2);
        linear(house, 0, House.BAD);
        ordered(house, 1, 0);
        House.due("program", house.read("thread A { " + House.times(13, "call put; reply; ") + "}"), 0);
        house.begin(0, new int[26]);
        linear(house, 3, House.FULL);
        ordered(house, 1, 0);
        house.x.explore(0, false);
        house.x.begin(0);
        ordered(house, 1, 0);
        linear(house, 3, 1);
        ordered(house);
    }

    private static void orderedNoneSuch() {
        House.sentence("ordered: NONE: none such.");
        House none = new House();
        House house = history("call read; reply;", "call read; reply;", "", 0, 0, 10, 10);
        linear(house, 0, 1);
        int[] others = {-1, 2, 12, 13, -100, Integer.MIN_VALUE, Integer.MAX_VALUE};
        for (int other : others) {
            House.due("ordered(" + other + ")", none.x.ordered(other), House.NONE);
            House.due("ordered(" + other + ")", house.x.ordered(other), House.NONE);
        }
        ordered(house, 0, 1);
    }
}
