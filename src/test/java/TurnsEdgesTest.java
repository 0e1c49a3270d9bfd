/** Edges of section 5 and of promises 20 to 27: each test goes by one sentence of the document. */
public final class TurnsEdgesTest {
    private static final int[] OTHERS = {-2, -100, Integer.MIN_VALUE, Integer.MAX_VALUE, 20000};

    public static void main(String[] args) {
        numbersOfStates();
        eachStateOnce();
        numbersOfOutcomes();
        schedules();
        fewerTurns();
        fewerTheLeastThread();
        fewerBehindAWhile();
        fewerNotOfThoseThatWait();
        switches();
        switchesWhileItHadAStep();
        switchesOfTriedRows();
        chancesOfOrders();
        chancesOfTheLeastChoice();
        chancesOfRows();
        chancesOfNumbersBeyond();
        chancesOf200Steps();
        chancesGoByTheLastExplored();
        statesUpTo20000();
        statesUpTo6000();
        fullExploresNothing();
        exploreWithoutProgramOrWay();
        exploredNothingOrAnother();
        outcomeNoneSuch();
        outcomeCellNoneSuch();
        outcomeLocalNoneSuch();
        scheduleNoneSuch();
        replayGoesByTheSchedule();
        replayFull();
        replayNoneSuch();
        chancesNoneSuch();
        House.finish();
    }

    /** One thread of so many steps, one behind the other, and one state more. */
    private static String chain(int outer, int inner, int more) {
        return "thread A { while p < " + outer + " { q = 0; while q < " + inner + " { q = q + 1; } p = p + 1; } "
            + House.times(more, "fence; ") + "}";
    }

    private static House explored(String program, int way) {
        House house = House.of(program);
        house.x.explore(way, false);
        return house;
    }

    private static void schedule(House house, int state, int... due) {
        House.due("schedule(" + state + ", -1)", house.x.schedule(state, -1), due.length);
        for (int i = 0; i < due.length; i++) {
            House.due("schedule(" + state + ", " + i + ")", house.x.schedule(state, i), due[i]);
        }
        House.due("schedule(" + state + ", " + due.length + ")", house.x.schedule(state, due.length), House.BAD);
    }

    private static void numbersOfStates() {
        House.sentence("STATES are numbered as they are found, those found from lesser ones first, by threads, then by CHOICES");
        House house = explored("thread A { fence; fence; } thread B { fence; } thread C { fence; }", 0);
        House.due("states", house.x.explored(0), 12);
        int[][] due = {{}, {0}, {10}, {20}, {0, 0}, {0, 10}, {0, 20}, {10, 20}, {0, 0, 10}, {0, 0, 20}, {0, 10, 20}, {0, 0, 10, 20}};
        for (int s = 0; s < due.length; s++) {
            schedule(house, s, due[s]);
        }
        House choices = explored("cell x; thread A { x = 1; x = 2; } thread B { r = x; }", 2);
        int[][] next = {{}, {0}, {10}, {0, 0}, {0, 10}, {0, 11}, {10, 0}, {0, 0, 10}, {0, 0, 11}, {0, 0, 12}};
        // B's load of the first write, ahead of A's store or behind it, comes to one state
        int[][] same = {{}, {0}, {10}, {0, 0}, {0, 10}, {0, 11}, {0, 0, 10}, {0, 0, 11}, {0, 0, 12}};
        House.due("states", choices.x.explored(0), same.length);
        House.due("less than", next.length - same.length, 1);
        for (int s = 0; s < same.length; s++) {
            schedule(choices, s, same[s]);
        }
        House flushes = explored("cell x; thread A { x = 1; fence; } thread B { halt; }", 1);
        int[][] last = {{}, {0}, {10}, {0, 9}, {0, 10}, {0, 9, 0}, {0, 9, 10}, {0, 9, 0, 10}};
        House.due("states", flushes.x.explored(0), last.length);
        for (int s = 0; s < last.length; s++) {
            schedule(flushes, s, last[s]);
        }
        // a flush is tried behind the thread's line
        House behind = explored("cell x; thread A { x = 1; halt; }", 1);
        schedule(behind, 2, 0, 0);
        schedule(behind, 3, 0, 9);
    }

    private static void eachStateOnce() {
        House.sentence("STATES are numbered as they are found ..; each once.");
        House house = explored("thread A { while 1 { r = 1 - r; } } thread B { while 1 { } }", 0);
        House.due("states", house.x.explored(0), 4);
        House.due("steps", house.x.explored(1), 8);
        House.due("ends", house.x.explored(2), 0);
        House.due("outcomes", house.x.explored(3), 0);
        House loop = explored("thread A { while 1 { } }", 0);
        House.due("states", loop.x.explored(0), 1);
        House.due("steps", loop.x.explored(1), 1);
        House empty = explored("", 0);
        House.due("states", empty.x.explored(0), 1);
        House.due("steps", empty.x.explored(1), 0);
        House.due("ends", empty.x.explored(2), 1);
        House.due("outcomes", empty.x.explored(3), 1);
        // a new explore() numbers anew
        for (int i = 0; i < 3; i++) {
            House.due("explore", house.x.explore(i, i == 1), 4);
            House.due("steps", house.x.explored(1) <= 8 ? 1 : 0, 1);
        }
    }

    private static void numbersOfOutcomes() {
        House.sentence("OUTCOMES likewise, by the first STATE that has them.");
        House house = explored("cell x; thread A { x = 1; } thread B { x = 2; } thread C { halt; }", 0);
        House.due("ends", house.x.explored(2), 2);
        House.due("outcomes", house.x.explored(3), 2);
        House.due("x of the first", house.x.outcomeCell(0, 0), 2);
        House.due("x of the second", house.x.outcomeCell(1, 0), 1);
        House.due("its state is less", house.x.outcome(0, 1) < house.x.outcome(1, 1) ? 1 : 0, 1);
        // an outcome of two ends is told by the first of them, and comes ahead of one found between them
        House two = explored("lock k; lock l; cell x; thread A { x = 1; lock k; } thread B { x = 2; lock k; }", 0);
        House.due("ends", two.x.explored(2), 4);
        House.due("outcomes", two.x.explored(3), 2);
        for (int i = 0; i < 2; i++) {
            two.x.replay(two.x.outcome(i, 1));
            House.due("ready in the end", two.x.ready(0), House.NONE);
            House.due("x", two.x.cell(0), two.x.outcomeCell(i, 0));
        }
        House.due("x of the first", two.x.outcomeCell(0, 0), 2);
        // the first state has an outcome of its own
        House first = explored("thread A later { }", 2);
        House.due("state", first.x.outcome(0, 1), 0);
        House.due("switches", first.x.outcome(0, 2), 0);
    }

    private static void schedules() {
        House.sentence("The SCHEDULE of a STATE is the way by which it was found: STEPS, each a thread and a CHOICE.");
        House house = explored("lock l; thread A { lock l; wait l; } thread B { lock l; wait l; } thread C { lock l; wakeall l; wake l; }"
            + " thread D { }", 0);
        for (int s = 0; s < house.x.explored(0); s++) {
            int length = house.x.schedule(s, -1);
            House.due("ready behind schedule " + s, house.x.replay(s) >= 0 ? 1 : 0, 1);
            House.due("steps", house.x.step(-1, 0), length);
            if (s % 30 == 29) {
                house = explored("lock l; thread A { lock l; wait l; } thread B { lock l; wait l; } thread C { lock l; wakeall l; wake l; }"
                    + " thread D { }", 0);
            }
        }
        House wakes = explored("lock l; thread A { lock l; wait l; } thread B { lock l; wait l; } thread C { join D; lock l; wake l; } thread D { }", 0);
        boolean first = false;
        boolean second = false;
        for (int s = 0; s < wakes.x.explored(0); s++) {
            int last = wakes.x.schedule(s, wakes.x.schedule(s, -1) - 1);
            first = first || last == 20;
            second = second || last == 21;
        }
        House.due("a wake of the first", first ? 1 : 0, 1);
        House.due("a wake of the second", second ? 1 : 0, 1);
        schedule(wakes, 0);
    }

    /** Behind a first fence of both, B's line is tried alone, ahead of A's fence: or A's two fences are tried, too. */
    private static void fewerTurns() {
        House.sentence("FEWER turns: in a STATE in which some thread's next line is a SETTING, if, assert, call, reply or halt, .. is the only STEP that is tried");
        String[] quiet = {"r = 1;", "assert 1;", "assert 0;", "call w;", "call w 1;", "reply;", "reply r;", "halt;", "if 1 { }", "if 0 { } else { }",
            "r = 999 + 1;", "if 999 + 1 { }"};
        String[] loud = {"r = x;", "x = 1;", "cas x, 0, 1;", "add x, 1;", "lock l;", "unlock l;", "wait l;", "wake l;", "wakeall l;", "start C;",
            "start A;", "fence;", "while 0 { }", "while 999 + 1 { }"};
        for (String statement : quiet) {
            House house = House.of("cell x; lock l; thread A { fence; fence; } thread B { " + statement + " } thread C later { }");
            House.due("all turns with " + statement, house.x.explore(0, false), 6);
            House.due("fewer turns with " + statement, house.x.explore(0, true), 4);
            House.due("steps tried", house.x.explored(1), 3);
            House.due("fewer", house.x.explored(5), 1);
            schedule(house, 1, 10);
        }
        for (String statement : loud) {
            House house = House.of("cell x; lock l; thread A { fence; fence; } thread B { " + statement + " } thread C later { }");
            House.due("all turns with " + statement, house.x.explore(0, false), 6);
            House.due("fewer turns with " + statement, house.x.explore(0, true), 6);
            House.due("steps tried", house.x.explored(1), 7);
        }
        // the flush of that thread is not tried either
        House buffers = House.of("cell x; thread A { x = 1; r = 1; }");
        House.due("all turns", buffers.x.explore(1, false), 5);
        House.due("fewer turns", buffers.x.explore(1, true), 4);
    }

    private static void fewerTheLeastThread() {
        House.sentence("the least such thread's is the only STEP that is tried");
        House house = House.of("thread A { fence; r = 1; } thread B { r = 1; } thread C { r = 1; }");
        House.due("fewer turns", house.x.explore(0, true), 5);
        schedule(house, 1, 10);
        schedule(house, 2, 10, 20);
        schedule(house, 3, 10, 20, 0);
        schedule(house, 4, 10, 20, 0, 0);
        House two = House.of("thread A { r = 1; fence; } thread B { fence; r = 1; }");
        House.due("fewer turns", two.x.explore(0, true), 7);
        schedule(two, 1, 0);
        schedule(two, 2, 0, 0);
        schedule(two, 3, 0, 10);
        schedule(two, 4, 0, 0, 10);
        schedule(two, 5, 0, 10, 10);
        schedule(two, 6, 0, 0, 10, 10);
    }

    private static void fewerBehindAWhile() {
        House.sentence("but from a STATE that was found by a STEP of 'while' (also one that went WRONG) all are.");
        // A's while is found first, and leads to a setting: B's fence is tried there, too
        House house = House.of("thread A { while 1 { r = 1; halt; } } thread B { fence; }");
        House.due("fewer turns", house.x.explore(0, true), 8);
        schedule(house, 3, 0, 0);
        schedule(house, 4, 0, 10);
        // B's while goes wrong where A stands at a setting: C's fence is tried behind it, too
        House wrong = House.of("thread A { while 1 { r = 1; r = 2; } } thread B { while 999 + 1 { } } thread C { fence; }");
        House.due("fewer turns", wrong.x.explore(0, true) > 0 ? 1 : 0, 1);
        boolean tried = false;
        for (int s = 0; s < wrong.x.explored(0) && s < 60; s++) {
            boolean such = wrong.x.schedule(s, -1) == 3 && wrong.x.schedule(s, 0) == 0;
            tried = tried || such && wrong.x.schedule(s, 1) == 10 && wrong.x.schedule(s, 2) == 20;
        }
        House.due("C's fence behind B's while", tried ? 1 : 0, 1);
        // the first state is found by no step, and comes again by a while: B's setting is the only step there
        House again = House.of("thread A { while 1 { while 0 { } } } thread B { r = 1; }");
        House.due("fewer turns", again.x.explore(0, true), 3);
        House.due("steps", again.x.explored(1), 3);
        House.due("all turns", again.x.explore(0, false), 4);
    }

    private static void fewerNotOfThoseThatWait() {
        House.sentence("some thread's next line is a SETTING, ..");
        // a thread that has not begun, that waits, that has ended or went wrong has no such line
        House house = House.of("lock l; thread A { lock l; wait l; r = 1; } thread B later { r = 1; } thread C { fence; fence; } thread D { }");
        House.due("fewer turns", house.x.explore(0, true), house.x.explore(0, false));
        House wrong = House.of("thread A { start A; r = 1; } thread B { fence; }");
        House.due("fewer turns", wrong.x.explore(0, true), 4);
    }

    private static void switches() {
        House.sentence("SWITCHES of a SCHEDULE: STEPS by another thread than the one before");
        // each add tells when it came: A, B, A, B needs three switches
        House house = explored("cell x; thread A { add x, 1 into p; add x, 1 into q; } thread B { add x, 1 into p; add x, 1 into q; }", 0);
        int[] seen = new int[4];
        for (int i = 0; i < house.x.explored(3); i++) {
            int p = house.x.outcomeLocal(i, 0, 0), q = house.x.outcomeLocal(i, 0, 1);
            // the places of A's steps among the four
            int due = q - p == 1 ? (p == 1 ? 1 : 0) : q - p == 2 ? 2 : 1;
            House.due("switches with A at " + p + ", " + q, house.x.outcome(i, 2), due);
            seen[due]++;
        }
        House.due("outcomes", house.x.explored(3), 6);
        House.due("with none", seen[0], 2);
        House.due("with one", seen[1], 2);
        House.due("with two", seen[2], 2);
        House alone = explored("thread A { fence; fence; }", 0);
        House.due("one thread", alone.x.outcome(0, 2), 0);
        // rows that go round come to an end as well
        House round = explored("cell x; thread A { while r == 0 { r = x; } } thread B { while q < 1 { q = 0; q = q + 1; x = 1; } }", 0);
        House.due("rows that go round", round.x.outcome(0, 2), 0);
        House forced = explored("cell x; cell y; thread A { x = 1; while r == 0 { r = y; } } thread B { while r == 0 { r = x; } y = 1; } thread C { while 1 { } }", 0);
        House.due("no end", forced.x.outcome(0, 2), House.BAD);
        House turns = explored("cell x; cell y; thread A { while r == 0 { r = y; } x = 1; } thread B { y = 1; while r == 0 { r = x; } }", 0);
        House.due("B, A, B", turns.x.outcome(0, 2), 1);
    }

    private static void switchesWhileItHadAStep() {
        House.sentence("while that still had a READY STEP.");
        House ended = explored("thread A { fence; } thread B { fence; } thread C { fence; }", 0);
        House.due("threads that ended", ended.x.outcome(0, 2), 0);
        House wrong = explored("thread A { assert 0; } thread B { fence; }", 0);
        House.due("threads that went wrong", wrong.x.outcome(0, 2), 0);
        House locks = explored("lock l; thread A { lock l; wait l; unlock l; } thread B { join C; lock l; wake l; unlock l; } thread C { fence; }", 0);
        for (int i = 0; i < locks.x.explored(3); i++) {
            House.due("threads that wait", locks.x.outcome(i, 2), 0);
        }
        House starts = explored("thread A { start B; join B; fence; } thread B later { fence; }", 0);
        // A is left at its join, which is not ready
        House.due("a join", starts.x.outcome(0, 2), 0);
        // a flush is a step that is ready: to leave a thread with a write in its buffer is a switch
        House buffers = explored("cell x; cell y; thread A { x = 1; p = y; } thread B { y = 1; q = x; }", 1);
        int found = 0;
        for (int i = 0; i < buffers.x.explored(3); i++) {
            int p = buffers.x.outcomeLocal(i, 0, 0), q = buffers.x.outcomeLocal(i, 1, 0);
            House.due("switches with " + p + ", " + q, buffers.x.outcome(i, 2), p == q ? 1 : 0);
            found++;
        }
        House.due("outcomes", found, 4);
    }

    private static void switchesOfTriedRows() {
        House.sentence("2 the fewest SWITCHES of a row of STEPS to an end with it (of all rows of STEPS that were tried).");
        House house = House.of("thread A { r = 1; fence; } thread B { s = 1; fence; }");
        house.x.explore(0, false);
        House.due("of all", house.x.outcome(0, 2), 0);
        // with fewer turns B's setting comes behind A's, which could go on
        house.x.explore(0, true);
        House.due("of fewer", house.x.outcome(0, 2), 1);
        // to more than one end with it
        House ends = explored("lock k; cell x; thread A { x = 1; r = x; lock k; } thread B { x = 1; lock k; }", 0);
        House.due("outcomes", ends.x.explored(3), 1);
        House.due("ends", ends.x.explored(2), 2);
        House.due("of two ends", ends.x.outcome(0, 2), 0);
    }

    private static void chancesOfOrders() {
        House.sentence("CHANCES (way 0): of all orders of threads (PRIORITIES)");
        int[] orders = {1, 1, 2, 6, 24};
        for (int threads = 0; threads < 5; threads++) {
            StringBuilder program = new StringBuilder();
            for (int t = 0; t < threads; t++) {
                program.append("thread T").append(t).append(" { fence; } ");
            }
            House house = explored(program.toString(), 0);
            House.due("orders of " + threads, house.x.chances(0, 1, 1), orders[threads]);
            House.due("orders of " + threads + " by D 2", house.x.chances(0, 2, 5), orders[threads] * 5);
            House.due("orders of " + threads + " by D 3", house.x.chances(0, 3, 12), orders[threads] * 144);
        }
        // the thread that comes last stores last
        House last = explored("cell x; thread A { x = 1; } thread B { x = 2; } thread C { x = 3; }", 0);
        for (int i = 0; i < 3; i++) {
            House.due("chances", last.x.chances(i, 1, 1), 2);
        }
        House.sentence("a run in which always the thread of the highest priority that has a READY STEP takes the one of the least CHOICE");
        // A stands at its join till B has ended, and goes ahead of C then if it is higher
        House join = explored("cell x; thread A { join B; x = 1; } thread B { fence; } thread C { x = 2; }", 0);
        int one = join.x.outcomeCell(0, 0) == 1 ? 0 : 1;
        // x = 1 at the end: C goes ahead of A in BCA, CAB, CBA, and in ACB, where A can't go yet
        House.due("chances of x = 1", join.x.chances(one, 1, 1), 4);
        House.due("chances of x = 2", join.x.chances(1 - one, 1, 1), 2);
    }

    private static void chancesOfTheLeastChoice() {
        House.sentence("takes the one of the least CHOICE");
        House house = explored("lock l; thread A { lock l; wait l; r = 1; } thread B { lock l; wait l; r = 1; } thread C { lock l; wake l; unlock l; }", 0);
        for (int i = 0; i < house.x.explored(3); i++) {
            int a = house.x.outcomeLocal(i, 0, 0), b = house.x.outcomeLocal(i, 1, 0);
            // with both waiting A is woken, the lesser one
            int due = a == 1 ? 3 : b == 1 ? 1 : 2;
            House.due("chances of " + a + ", " + b, house.x.chances(i, 1, 1), due);
        }
    }

    private static void chancesOfRows() {
        House.sentence("all rows of D - 1 numbers 1 .. K (with repeats): .. behind STEP number c of such a row (in the order of the row, each that is this number)"
            + " the thread that took it comes below all others");
        // r counts A's stores ahead of B's load
        House house = explored("cell x; thread A { x = 1; x = 2; x = 3; } thread B { r = x; }", 0);
        int[] r = new int[4];
        for (int i = 0; i < 4; i++) {
            r[house.x.outcomeLocal(i, 1, 0)] = i;
        }
        int[] one = {1, 0, 0, 1};
        // by A, B: a number 1, 2, 3, 4; by B, A: B has gone already
        int[] two = {4, 1, 1, 2};
        for (int i = 0; i < 4; i++) {
            House.due("D 1, r = " + i, house.x.chances(r[i], 1, 4), one[i]);
            House.due("D 2, K 4, r = " + i, house.x.chances(r[i], 2, 4), two[i]);
        }
        House.due("D 2, K 1, r = 1", house.x.chances(r[1], 2, 1), 1);
        House.due("D 2, K 1, r = 0", house.x.chances(r[0], 2, 1), 1);
        House.due("D 2, K 1, r = 3", house.x.chances(r[3], 2, 1), 0);
        // two numbers: the first of A's steps that is one of them; (1, 1) takes A below once
        House.due("D 3, K 2, r = 1", house.x.chances(r[1], 3, 2), 3);
        House.due("D 3, K 2, r = 2", house.x.chances(r[2], 3, 2), 1);
        House.due("D 3, K 2, r = 0", house.x.chances(r[0], 3, 2), 4);
        House.due("D 3, K 2, r = 3", house.x.chances(r[3], 3, 2), 0);
        // below all others, not below the next one alone
        House three = explored("cell x; thread A { fence; x = 1; } thread B { x = 2; } thread C { x = 3; }", 0);
        int found = -1;
        for (int i = 0; i < 3; i++) {
            found = three.x.outcomeCell(i, 0) == 1 ? i : found;
        }
        // A's first step goes below: ABC, ACB, and B or C behind its own one step, which is its last
        House.due("x = 1 by K 1", three.x.chances(found, 2, 1), 6 - 2);
    }

    private static void chancesOfNumbersBeyond() {
        House.sentence("(a STEP number that the run does not come to changes nothing)");
        House house = explored("cell x; thread A { x = 1; } thread B { x = 2; }", 0);
        House.due("D 1", house.x.chances(0, 1, 1), 1);
        House.due("D 2", house.x.chances(0, 2, 12), 12);
        House.due("D 3", house.x.chances(0, 3, 12), 144);
    }

    private static void chancesOf200Steps() {
        House.sentence("how many of these runs END with an OUTCOME, at 200 STEPS at most (those longer have none).");
        // 99 rounds of two steps, the last judging, and so many fences
        for (int more = 0; more < 4; more++) {
            House house = explored("thread A { while p < 99 { p = p + 1; } " + House.times(more, "fence; ") + "}", 0);
            House.due("chances of " + (199 + more) + " steps", house.x.chances(0, 1, 1), more < 2 ? 1 : 0);
            House.due("chances by D 3", house.x.chances(0, 3, 12), more < 2 ? 144 : 0);
        }
        // a thread that goes on for ever has no end, if the other one does not stop it
        House stops = explored("cell x; thread A { r = x; while r == 0 { r = x; } } thread B { x = 1; }", 0);
        House.due("chances", stops.x.chances(0, 1, 1), 1);
        House.due("outcomes", stops.x.explored(3), 1);
        House several = explored("cell x; thread A { r = x; while r == 0 { r = x; } } thread B { x = 1; x = 2; x = 3; }", 0);
        House.due("outcomes", several.x.explored(3), 3);
        for (int i = 0; i < 3; i++) {
            int r = several.x.outcomeLocal(i, 0, 0);
            House.due("chances of r = " + r, several.x.chances(i, 1, 1), r == 3 ? 1 : 0);
            // A first, below behind its first step: r is 3 then; B first, below behind its first: r is 1
            House.due("chances of r = " + r + " by D 2", several.x.chances(i, 2, 1), r == 2 ? 0 : 1);
        }
    }

    private static void chancesGoByTheLastExplored() {
        House.sentence("END with OUTCOME i of those explored last, by way 0");
        House house = House.of("cell x; thread A { x = 1; x = 2; x = 1; } thread B { r = x; }");
        house.x.rewrite(1, 1);
        House.due("sound", house.x.sound(0), 1);
        int all = 0;
        for (int i = 0; i < house.x.explored(3); i++) {
            all += house.x.chances(i, 2, 2);
            House.due("r is not 2", house.x.outcomeLocal(i, 1, 0) < 2 ? 1 : 0, 1);
        }
        House.due("all runs of the rewritten one", all, 4);
        house.x.explore(0, true);
        all = 0;
        for (int i = 0; i < house.x.explored(3); i++) {
            all += house.x.chances(i, 2, 2);
        }
        House.due("all runs of the program", all, 4);
        House.due("sound by another way", house.x.sound(2), 1);
        House.due("chances", house.x.chances(0, 1, 1), House.BAD);
        // an outcome that fewer turns have not found is none of them
        House fewer = House.of("cell x; thread A { fence; x = 1; } thread B { x = 2; r = 1; }");
        fewer.x.explore(0, true);
        all = 0;
        for (int i = 0; i < fewer.x.explored(3); i++) {
            all += fewer.x.chances(i, 1, 1);
        }
        House.due("all runs", all, 2);
    }

    private static void statesUpTo20000() {
        House.sentence("how many STATES. FULL: above 20,000");
        House fits = House.of(chain(98, 100, 6));
        House over = House.of(chain(98, 100, 7));
        for (int way = 0; way < 2; way++) {
            for (int fewer = 0; fewer < 2; fewer++) {
                House.due("explore of 20,000", fits.x.explore(way, fewer == 1), 20000);
                House.due("states", fits.x.explored(0), 20000);
                House.due("steps", fits.x.explored(1), 19999);
                House.due("state of the end", fits.x.outcome(0, 1), 19999);
                House.due("switches", fits.x.outcome(0, 2), 0);
                House.due("schedule(19999, -1)", fits.x.schedule(19999, -1), 19999);
                House.due("schedule(19999, 19998)", fits.x.schedule(19999, 19998), 0);
                House.due("schedule(20000, -1)", fits.x.schedule(20000, -1), House.BAD);
                House.due("explore of 20,001", over.x.explore(way, fewer == 1), House.FULL);
                House.due("explored", over.x.explored(0), House.BAD);
            }
        }
        House.due("explore", fits.x.explore(0, false), 20000);
        fits.law("always A.q <= 100 & A.p <= 98", 1, House.NONE);
        fits.law("must ended A", 1, House.NONE);
        fits.law("never ended A", 0, 19999);
        fits.law("0 leads 0", 1, House.NONE);
    }

    private static void statesUpTo6000() {
        House.sentence("(of way 2 above 6,000)");
        House fits = House.of(chain(26, 113, 18));
        House over = House.of(chain(26, 113, 19));
        for (int fewer = 0; fewer < 2; fewer++) {
            House.due("explore of 6,000", fits.x.explore(2, fewer == 1), 6000);
            House.due("state of the end", fits.x.outcome(0, 1), 5999);
            House.due("explore of 6,001", over.x.explore(2, fewer == 1), House.FULL);
            House.due("explored", over.x.explored(0), House.BAD);
            House.due("by another way", over.x.explore(fewer, false), 6001);
        }
    }

    private static void fullExploresNothing() {
        House.sentence("FULL: nothing is explored then.");
        House house = House.of(chain(98, 100, 7) + " thread B later { } cell x; lock l;");
        House.due("explore by views", house.x.explore(2, false), House.FULL);
        House.due("explore", house.x.explore(0, false), House.FULL);
        for (int what = 0; what < 6; what++) {
            House.due("explored(" + what + ")", house.x.explored(what), House.BAD);
        }
        House.due("outcome", house.x.outcome(0, 0), House.BAD);
        House.due("outcomeCell", house.x.outcomeCell(0, 0), House.NO_VALUE);
        House.due("outcomeLocal", house.x.outcomeLocal(0, 0, 0), House.NO_VALUE);
        House.due("schedule", house.x.schedule(0, -1), House.BAD);
        House.due("replay", house.x.replay(0), House.BAD);
        House.due("chances", house.x.chances(0, 1, 1), House.BAD);
        House.due("race", house.x.race(-1, 0), House.BAD);
        House.due("guard", house.x.guard(0), House.BAD);
        House.due("ring", house.x.ring(0), House.BAD);
        House.due("order", house.x.order(0, 0), House.BAD);
        House.due("judge", house.law("always 1"), House.BAD);
        House.due("the text stays", house.x.count(2), 8);
        // what was explored before is gone then, too
        House small = House.of("thread A { halt; }");
        House.due("explore", small.x.explore(0, false), 2);
        House.due("program", small.read(chain(26, 113, 19)), 0);
        House.due("explore", small.x.explore(1, false), 6001);
        House.due("explore by views", small.x.explore(2, false), House.FULL);
        House.due("explored", small.x.explored(0), House.BAD);
        // a run goes on
        House.due("begin", small.x.begin(0), 1);
        House.due("explore by views", small.x.explore(2, true), House.FULL);
        House.due("turn", small.x.turn(0, 0), 1);
    }

    private static void exploreWithoutProgramOrWay() {
        House.sentence("explore: BAD: no program, way.");
        House none = new House();
        int[] ways = {-1, 3, 4, 9, Integer.MIN_VALUE, Integer.MAX_VALUE};
        for (int way = 0; way < 3; way++) {
            House.due("explore without a program", none.x.explore(way, false), House.BAD);
        }
        House house = House.of("thread A { halt; }");
        House.due("explore", house.x.explore(1, false), 2);
        for (int way : ways) {
            House.due("explore(" + way + ")", none.x.explore(way, true), House.BAD);
            House.due("explore(" + way + ")", house.x.explore(way, true), House.BAD);
            House.due("what was explored stays", house.x.explored(4), 1);
        }
        House.due("program", house.read("cell"), 2);
        House.due("explore behind a fault", house.x.explore(0, false), House.BAD);
    }

    private static void exploredNothingOrAnother() {
        House.sentence("explored: BAD: nothing, another number.");
        House house = House.of("cell x; thread A { x = 1; x = 2; } thread B { r = x; }");
        for (int what = -1; what < 8; what++) {
            House.due("explored(" + what + ") of nothing", house.x.explored(what), House.BAD);
        }
        house.x.explore(2, true);
        int[] due = {9, 11, 3, 3, 2, 1};
        for (int what = 0; what < 6; what++) {
            House.due("explored(" + what + ")", house.x.explored(what), due[what]);
        }
        int[] others = {-1, 6, 7, 100, Integer.MIN_VALUE, Integer.MAX_VALUE};
        for (int what : others) {
            House.due("explored(" + what + ")", house.x.explored(what), House.BAD);
        }
    }

    private static void outcomeNoneSuch() {
        House.sentence("outcome: BAD: none such.");
        House house = House.of("cell x; thread A { r = x; } thread B { x = 1; }");
        House.due("of nothing", house.x.outcome(0, 0), House.BAD);
        house.x.explore(0, false);
        int[][] due = {{0, 3, 0}, {0, 4, 0}};
        for (int i = 0; i < 2; i++) {
            for (int what = 0; what < 3; what++) {
                House.due("outcome(" + i + ", " + what + ")", house.x.outcome(i, what), due[i][what]);
            }
            House.due("outcome(" + i + ", 3)", house.x.outcome(i, 3), House.BAD);
            House.due("outcome(" + i + ", -1)", house.x.outcome(i, -1), House.BAD);
        }
        House.due("outcome(2, 0)", house.x.outcome(2, 0), House.BAD);
        House.due("outcome(-1, 0)", house.x.outcome(-1, 0), House.BAD);
        for (int other : OTHERS) {
            House.due("outcome(" + other + ", 0)", house.x.outcome(other, 0), House.BAD);
            House.due("outcome(0, " + other + ")", house.x.outcome(0, other), House.BAD);
        }
        // a program without ends has none
        House loop = explored("thread A { while 1 { } }", 0);
        for (int what = 0; what < 3; what++) {
            House.due("outcome(0, " + what + ")", loop.x.outcome(0, what), House.BAD);
        }
        House.due("outcomeCell", loop.x.outcomeCell(0, 0), House.NO_VALUE);
        House.due("chances", loop.x.chances(0, 1, 1), House.BAD);
    }

    private static void outcomeCellNoneSuch() {
        House.sentence("A cell of an OUTCOME's memory. - 1,000: none such.");
        House house = House.of("cell x = - 4; cell y = 999; thread A { x = - 999; }");
        House.due("of nothing", house.x.outcomeCell(0, 0), House.NO_VALUE);
        for (int way = 0; way < 3; way++) {
            house.x.explore(way, false);
            House.due("x", house.x.outcomeCell(0, 0), -999);
            House.due("y", house.x.outcomeCell(0, 1), 999);
            House.due("outcomeCell(0, 2)", house.x.outcomeCell(0, 2), House.NO_VALUE);
            House.due("outcomeCell(1, 0)", house.x.outcomeCell(1, 0), House.NO_VALUE);
            House.due("outcomeCell(-1, 0)", house.x.outcomeCell(-1, 0), House.NO_VALUE);
            House.due("outcomeCell(0, -1)", house.x.outcomeCell(0, -1), House.NO_VALUE);
            for (int other : OTHERS) {
                House.due("outcomeCell(" + other + ", 0)", house.x.outcomeCell(other, 0), House.NO_VALUE);
                House.due("outcomeCell(0, " + other + ")", house.x.outcomeCell(0, other), House.NO_VALUE);
            }
        }
    }

    private static void outcomeLocalNoneSuch() {
        House.sentence("A LOCAL of a thread of an OUTCOME. - 1,000: none such.");
        House house = House.of("thread A { p = - 3; q = 4; } thread B { } thread C { a = b + c + d + e + f; f = 6; }");
        House.due("of nothing", house.x.outcomeLocal(0, 0, 0), House.NO_VALUE);
        house.x.explore(0, false);
        House.due("p", house.x.outcomeLocal(0, 0, 0), -3);
        House.due("q", house.x.outcomeLocal(0, 0, 1), 4);
        House.due("outcomeLocal(0, 0, 2)", house.x.outcomeLocal(0, 0, 2), House.NO_VALUE);
        House.due("outcomeLocal(0, 1, 0)", house.x.outcomeLocal(0, 1, 0), House.NO_VALUE);
        House.due("f", house.x.outcomeLocal(0, 2, 5), 6);
        House.due("outcomeLocal(0, 2, 6)", house.x.outcomeLocal(0, 2, 6), House.NO_VALUE);
        House.due("outcomeLocal(0, 3, 0)", house.x.outcomeLocal(0, 3, 0), House.NO_VALUE);
        House.due("outcomeLocal(1, 0, 0)", house.x.outcomeLocal(1, 0, 0), House.NO_VALUE);
        House.due("outcomeLocal(-1, 0, 0)", house.x.outcomeLocal(-1, 0, 0), House.NO_VALUE);
        House.due("outcomeLocal(0, -1, 0)", house.x.outcomeLocal(0, -1, 0), House.NO_VALUE);
        House.due("outcomeLocal(0, 0, -1)", house.x.outcomeLocal(0, 0, -1), House.NO_VALUE);
        for (int other : OTHERS) {
            House.due("outcomeLocal(" + other + ", 0, 0)", house.x.outcomeLocal(other, 0, 0), House.NO_VALUE);
            House.due("outcomeLocal(0, " + other + ", 0)", house.x.outcomeLocal(0, other, 0), House.NO_VALUE);
            House.due("outcomeLocal(0, 0, " + other + ")", house.x.outcomeLocal(0, 0, other), House.NO_VALUE);
        }
    }

    private static void scheduleNoneSuch() {
        House.sentence("schedule: i = - 1: how many. BAD: none such.");
        House house = House.of("thread A { fence; fence; }");
        House.due("of nothing", house.x.schedule(0, -1), House.BAD);
        house.x.explore(0, false);
        schedule(house, 0);
        schedule(house, 1, 0);
        schedule(house, 2, 0, 0);
        House.due("schedule(3, -1)", house.x.schedule(3, -1), House.BAD);
        House.due("schedule(-1, -1)", house.x.schedule(-1, -1), House.BAD);
        House.due("schedule(-1, 0)", house.x.schedule(-1, 0), House.BAD);
        for (int other : OTHERS) {
            House.due("schedule(" + other + ", -1)", house.x.schedule(other, -1), House.BAD);
            House.due("schedule(2, " + other + ")", house.x.schedule(2, other), House.BAD);
            House.due("schedule(0, " + other + ")", house.x.schedule(0, other), House.BAD);
        }
    }

    private static void replayGoesByTheSchedule() {
        House.sentence("The run begins by the way explored last, and goes by a STATE's SCHEDULE: how many STEPS are READY behind it.");
        House house = House.of("cell x; thread A { x = 1; halt; } thread B { r = x; }");
        for (int way = 0; way < 3; way++) {
            int states = house.x.explore(way, false);
            house.begin((way + 1) % 3, 0);
            int[][] first = {{2, 2, 1}, {2, 3, 1}, {2, 3, 1}};
            for (int s = 0; s < 3; s++) {
                House.due("replay(" + s + ") by way " + way, house.x.replay(s), first[way][s]);
                House.due("steps", house.x.step(-1, 0), s == 0 ? 0 : 1);
            }
            House.due("buffer", house.x.replay(1) >= 0 ? house.x.thread(0, 3) : -9, way == 1 ? 1 : 0);
            House.due("replay of the last", house.x.replay(states - 1), 0);
        }
        // the run goes on from there
        House on = House.of("thread A { fence; fence; fence; }");
        on.x.explore(0, false);
        House.due("replay", on.x.replay(2), 1);
        House.due("turn", on.x.turn(0, 0), 0);
        House.due("steps", on.x.step(-1, 0), 3);
        House.due("line", on.x.step(2, 2), 2);
    }

    private static void replayFull() {
        House.sentence("FULL: it has more than 200.");
        House house = House.of(chain(26, 113, 0));
        house.x.explore(0, false);
        House.due("replay(3)", house.x.replay(3), 1);
        House.due("replay(201)", house.x.replay(201), House.FULL);
        House.due("the run stays", house.x.step(-1, 0), 3);
        House.due("replay(200)", house.x.replay(200), 1);
        House.due("steps", house.x.step(-1, 0), 200);
        House.due("turn", house.x.turn(0, 0), House.FULL);
        House.due("replay(199)", house.x.replay(199), 1);
        House.due("turn", house.x.turn(0, 0), 1);
        House.due("replay(5981)", house.x.replay(5981), House.FULL);
        House.due("replay(5982)", house.x.replay(5982), House.BAD);
    }

    private static void replayNoneSuch() {
        House.sentence("replay: BAD: none such.");
        House house = House.of("thread A { fence; fence; }");
        House.due("of nothing", house.x.replay(0), House.BAD);
        House.due("no run", house.x.ready(0), House.BAD);
        house.x.explore(0, false);
        house.begin(0, 0);
        int[] others = {-1, 3, -2, 100, Integer.MIN_VALUE, Integer.MAX_VALUE};
        for (int other : others) {
            House.due("replay(" + other + ")", house.x.replay(other), House.BAD);
            House.due("the run stays", house.x.step(-1, 0), 1);
        }
    }

    private static void chancesNoneSuch() {
        House.sentence("chances: BAD: none such; it was another way; no such D, K.");
        House house = House.of("cell x; thread A { x = 1; } thread B { x = 2; }");
        House.due("of nothing", house.x.chances(0, 1, 1), House.BAD);
        for (int way = 1; way < 3; way++) {
            house.x.explore(way, false);
            House.due("by way " + way, house.x.chances(0, 1, 1), House.BAD);
        }
        house.x.explore(0, false);
        for (int d = 1; d < 4; d++) {
            int rows = 1;
            for (int i = 1; i < d; i++) {
                rows *= 12;
            }
            House.due("chances(0, " + d + ", 12)", house.x.chances(0, d, 12), rows);
            House.due("chances(1, " + d + ", 1)", house.x.chances(1, d, 1), 1);
            House.due("chances(0, " + d + ", 0)", house.x.chances(0, d, 0), House.BAD);
            House.due("chances(0, " + d + ", 13)", house.x.chances(0, d, 13), House.BAD);
            House.due("chances(2, " + d + ", 1)", house.x.chances(2, d, 1), House.BAD);
            House.due("chances(-1, " + d + ", 1)", house.x.chances(-1, d, 1), House.BAD);
        }
        House.due("chances(0, 0, 1)", house.x.chances(0, 0, 1), House.BAD);
        House.due("chances(0, 4, 1)", house.x.chances(0, 4, 1), House.BAD);
        for (int other : OTHERS) {
            House.due("chances(" + other + ", 1, 1)", house.x.chances(other, 1, 1), House.BAD);
            House.due("chances(0, " + other + ", 1)", house.x.chances(0, other, 1), House.BAD);
            House.due("chances(0, 1, " + other + ")", house.x.chances(0, 1, other), House.BAD);
        }
    }
}
