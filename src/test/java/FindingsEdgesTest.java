/** Edges of section 6 and of promises 28 to 31: each test goes by one sentence of the document. */
public final class FindingsEdgesTest {
    private static final int[] OTHERS = {-2, -100, Integer.MIN_VALUE, Integer.MAX_VALUE, 1000};

    public static void main(String[] args) {
        raceOfTwoLines();
        raceOfReadyLines();
        raceOfTwoThreads();
        raceLinesInOrder();
        raceLeastState();
        raceNoneSuch();
        guardInEachState();
        guardOfNone();
        guardNoneSuch();
        ringRound();
        ringOfAWokenOne();
        ringOutside();
        ringHowManyEnds();
        lost();
        ringNone();
        ringAnotherNumber();
        orderOfLocks();
        orderNotOfHeldOnes();
        orderOfStepsTaken();
        orderNoneSuch();
        crossed();
        nothingExplored();
        House.finish();
    }

    private static House explored(String program, int way) {
        House house = House.of(program);
        house.x.explore(way, false);
        return house;
    }

    private static void races(House house, int[]... due) {
        for (int what = 0; what < 3; what++) {
            House.due("race(-1, " + what + ")", house.x.race(-1, what), due.length);
            House.due("race(" + due.length + ", " + what + ")", house.x.race(due.length, what), House.BAD);
        }
        for (int k = 0; k < due.length; k++) {
            for (int what = 0; what < due[k].length; what++) {
                House.due("race(" + k + ", " + what + ")", house.x.race(k, what), due[k][what]);
            }
        }
    }

    private static void raceOfTwoLines() {
        House.sentence("touch one cell that is not volatile (LOAD, STORE, cas, add), one of them by STORE, or one a LOAD and the other one cas or add");
        String[] lines = {"r = @", "@ = 1", "cas @, 0, 1", "add @, 1"};
        int[][] due = {{0, 1, 1, 1}, {1, 1, 1, 1}, {1, 1, 0, 0}, {1, 1, 0, 0}};
        String[] cells = {"x", "y", "v"};
        for (int i = 0; i < 4; i++) {
            for (int k = 0; k < 4; k++) {
                for (String one : cells) {
                    for (String other : cells) {
                        House house = House.of("cell x; cell y; cell v volatile; thread A { " + lines[i].replace("@", one) + "; } thread B { "
                            + lines[k].replace("@", other) + "; }");
                        boolean same = one.equals(other) && !one.equals("v");
                        for (int way = 0; way < 3; way++) {
                            house.x.explore(way, false);
                            if (same && due[i][k] == 1) {
                                races(house, new int[] {0, 1, 0});
                            } else {
                                races(house);
                            }
                        }
                    }
                }
            }
        }
        String[] others = {"r = 1;", "lock l;", "unlock l;", "wait l;", "wake l;", "wakeall l;", "start C;", "join C;", "fence;", "halt;", "assert 1;",
            "call w;", "reply;", "if 1 { }", "while 1 { }"};
        for (String other : others) {
            races(explored("cell x; lock l; thread A { x = 1; } thread B { " + other + " } thread C later { }", 0));
        }
    }

    private static void raceOfReadyLines() {
        House.sentence("that are both next and READY in some STATE");
        // the same lock round both, a start, a join
        races(explored("cell x; lock l; thread A { lock l; x = 1; unlock l; } thread B { lock l; x = 2; unlock l; }", 0));
        races(explored("cell x; thread A { x = 1; start B; } thread B later { x = 2; }", 0));
        races(explored("cell x; thread A { x = 1; } thread B { join A; x = 2; }", 0));
        races(explored("cell x; lock l; lock m; thread A { lock l; x = 1; unlock l; } thread B { lock m; x = 2; unlock m; }", 0), new int[] {1, 4, 4});
        // an add behind a store is not ready till the buffer is empty
        String program = "cell x; cell y; thread A { y = 1; add x, 1; } thread B { r = x; }";
        races(explored(program, 0), new int[] {1, 2, 1});
        races(explored(program, 1), new int[] {1, 2, 3});
        // a fourth store is not ready
        races(explored("cell x; cell y; thread A { y = 1; y = 2; y = 3; x = 1; } thread B { r = x; }", 1), new int[] {3, 4, 10});
        // with nine writes neither a store nor an add is ready
        String nine = "cell x; thread A { " + House.times(8, "x = 1; ") + "x = 2; } thread B { join C; r = x; } thread C { join A; }";
        races(explored(nine, 0));
        races(explored("cell x; thread A { " + House.times(8, "x = 1; ") + "start B; x = 2; } thread B later { r = x; }", 2));
        races(explored("cell x; thread A { " + House.times(8, "x = 1; ") + "start B; x = 2; } thread B later { r = x; }", 0), new int[] {9, 10, 9});
        // a line that is to go wrong is ready
        races(explored("cell x; thread A { x = 999 + 1; } thread B { r = x; }", 0), new int[] {0, 1, 0});
        // a thread that has not begun has no next line, nor has one that went wrong
        races(explored("cell x; thread A { x = 1; } thread B later { x = 1; } thread C { assert 0; x = 1; } thread D { halt; x = 1; }", 0));
    }

    private static void raceOfTwoThreads() {
        House.sentence("A RACE: two lines of two threads");
        races(explored("cell x; thread A { x = 1; x = 2; r = x; }", 0));
        races(explored("cell x; thread A { x = 1; } thread B { x = 1; } thread C { x = 1; } thread D { x = 1; }", 0),
            new int[] {0, 1, 0}, new int[] {0, 2, 0}, new int[] {0, 3, 0}, new int[] {1, 2, 0}, new int[] {1, 3, 0}, new int[] {2, 3, 0});
        // with four threads loads are none among themselves
        races(explored("cell x; thread A { r = x; } thread B { add x, 1; } thread C { r = x; } thread D { cas x, 0, 1; }", 0),
            new int[] {0, 1, 0}, new int[] {0, 3, 0}, new int[] {1, 2, 0}, new int[] {2, 3, 0});
    }

    private static void raceLinesInOrder() {
        House.sentence("lines in order of numbers; told by the two lines, the lesser first");
        // found first: 1 and 2; then 0 and 2 can't, as A is behind it
        races(explored("cell x; cell y; thread A { x = 1; y = 1; } thread B { y = 2; x = 2; }", 0), new int[] {0, 3, 2}, new int[] {1, 2, 1});
        races(explored("cell x; thread A { fence; x = 1; x = 2; } thread B { x = 3; x = 4; }", 0),
            new int[] {1, 3, 1}, new int[] {1, 4, 4}, new int[] {2, 3, 3}, new int[] {2, 4, 7});
    }

    private static void raceLeastState() {
        House.sentence("2 the least STATE with it");
        House house = explored("cell x; thread A { fence; fence; x = 1; } thread B { x = 1; } thread C { fence; }", 0);
        int state = house.x.race(0, 2);
        House.due("races", house.x.race(-1, 0), 1);
        House.due("length", house.x.schedule(state, -1), 2);
        House.due("both by A", house.x.schedule(state, 0) + house.x.schedule(state, 1), 0);
        House.due("from the first", explored("cell x; thread A { x = 1; } thread B { x = 1; } thread C { fence; }", 0).x.race(0, 2), 0);
    }

    private static void raceNoneSuch() {
        House.sentence("race: k = - 1 (and 0 to 2): how many. BAD: none such, another number, too.");
        House house = explored("cell x; thread A { x = 1; } thread B { x = 2; }", 0);
        races(house, new int[] {0, 1, 0});
        House.due("race(-1, 3)", house.x.race(-1, 3), House.BAD);
        House.due("race(-1, -1)", house.x.race(-1, -1), House.BAD);
        House.due("race(0, 3)", house.x.race(0, 3), House.BAD);
        House.due("race(0, -1)", house.x.race(0, -1), House.BAD);
        for (int other : OTHERS) {
            House.due("race(" + other + ", 0)", house.x.race(other, 0), House.BAD);
            House.due("race(0, " + other + ")", house.x.race(0, other), House.BAD);
            House.due("race(-1, " + other + ")", house.x.race(-1, other), House.BAD);
        }
        races(explored("", 0));
    }

    private static void guard(House house, int... due) {
        for (int c = 0; c < due.length; c++) {
            House.due("guard(" + c + ")", house.x.guard(c), due[c]);
        }
        House.due("guard(" + due.length + ")", house.x.guard(due.length), House.BAD);
    }

    private static void guardInEachState() {
        House.sentence("HELD: of a cell: locks that are held by the thread in each STATE in which a line that touches it is next and READY there, as bits.");
        String[] touches = {"r = @;", "@ = 1;", "cas @, 0, 1;", "add @, 1;"};
        for (String touch : touches) {
            for (String cell : new String[] {"x", "v"}) {
                String line = touch.replace("@", cell);
                House house = explored("cell x; cell v volatile; lock i; lock j; lock k; lock l; thread A { lock i; lock k; lock l; " + line
                    + " unlock k; unlock l; unlock i; } thread B { lock k; lock j; " + line + " unlock j; unlock k; }", 0);
                guard(house, cell.equals("x") ? 4 : 15, cell.equals("x") ? 15 : 4);
            }
        }
        // of one thread in two places; held by another thread does not count
        guard(explored("cell x; cell y; lock k; lock l; thread A { lock k; x = 1; lock l; y = 1; unlock k; x = 2; unlock l; } thread B { r = y; }", 0), 0, 0);
        guard(explored("cell x; lock k; lock l; thread A { lock l; lock k; x = 1; unlock k; x = 2; }", 0), 2);
        // held more than once
        guard(explored("cell x; lock l; thread A { lock l; lock l; unlock l; x = 1; }", 0), 1);
        // a line to which none comes, or that is never ready, does not count
        guard(explored("cell x; lock l; thread A { halt; x = 1; }", 0), 1);
        guard(explored("cell x; lock l; thread A { if 0 { x = 1; } lock l; x = 1; unlock l; }", 0), 1);
        String full = "cell x; lock l; thread A { lock l; " + House.times(8, "x = 1; ") + "unlock l; x = 1; }";
        guard(explored(full, 2), 1);
        guard(explored(full, 0), 0);
        // an add behind a store by buffers is ready behind the unlock alone where the unlock is ready
        guard(explored("cell x; cell y; lock l; thread A { lock l; y = 1; add x, 1; unlock l; }", 1), 1, 1);
    }

    private static void guardOfNone() {
        House.sentence("(all locks if there is none)");
        int[] due = {0, 1, 3, 7, 15};
        for (int locks = 0; locks < 5; locks++) {
            StringBuilder program = new StringBuilder("cell x; cell y; ");
            for (int l = 0; l < locks; l++) {
                program.append("lock l").append(l).append("; ");
            }
            House house = explored(program + "thread A { y = 1; }", 0);
            guard(house, due[locks], 0);
        }
    }

    private static void guardNoneSuch() {
        House.sentence("guard: BAD: no such cell, too.");
        House house = House.of("cell x; lock l; thread A { }");
        House.due("of nothing", house.x.guard(0), House.BAD);
        house.x.explore(1, true);
        guard(house, 1);
        House.due("guard(-1)", house.x.guard(-1), House.BAD);
        for (int other : OTHERS) {
            House.due("guard(" + other + ")", house.x.guard(other), House.BAD);
        }
    }

    private static void ring(House house, int... due) {
        for (int what = 0; what < due.length; what++) {
            House.due("ring(" + what + ")", house.x.ring(what), due[what]);
        }
    }

    private static void ringRound() {
        House.sentence("A RING: in an end that is not of sort 0 threads each of which is at a lock that the next one holds, round: the least thread in such a ring.");
        String two = "lock a; lock b; lock c; lock d; thread A { lock a; lock b; } thread B { lock b; lock a; } ";
        for (int way = 0; way < 3; way++) {
            House house = explored(two, way);
            // 1, 2 are found by A, by B; 3 by A again, 4 by both
            ring(house, 1, 4, 0, 0, House.NONE, 1);
            House three = explored("lock a; lock b; lock c; thread A { lock b; lock c; } thread B { lock a; lock b; } thread C { lock c; lock a; }", way);
            House.due("rings of three", three.x.ring(0), 1);
            House.due("least", three.x.ring(2), 0);
            House four = explored("lock a; lock b; lock c; lock d; thread A { lock a; lock b; } thread B { lock b; lock c; } thread C { lock c; lock d; }"
                + " thread D { lock d; lock a; }", way);
            House.due("rings of four", four.x.ring(0), 1);
            House.due("least", four.x.ring(2), 0);
            House.due("length", four.x.schedule(four.x.ring(1), -1), 4);
        }
        // A or B has both locks, or none; C or D likewise: four of nine ends have no ring
        House both = explored(two + "thread C { lock c; lock d; } thread D { lock d; lock c; }", 0);
        House.due("ends", both.x.explored(2), 9);
        House.due("rings", both.x.ring(0), 5);
        // in the least of them A has both
        int least = both.x.ring(1);
        House.due("A takes one", both.x.schedule(least, 0), 0);
        House.due("A takes the other", both.x.schedule(least, 1), 0);
        House.due("least thread there", both.x.ring(2), 2);
        House last = explored("lock c; lock d; thread A { } thread B later { } thread C { lock c; lock d; } thread D { lock d; lock c; }", 0);
        House.due("a ring of the last two", last.x.ring(2), 2);
    }

    private static void ringOfAWokenOne() {
        House.sentence("(or WOKEN for one)");
        House house = explored("lock l; lock m; thread A { lock m; lock l; start B; wait l; } thread B later { lock l; wake l; lock m; }", 0);
        House.due("rings", house.x.ring(0), 1);
        House.due("least", house.x.ring(2), 0);
        House.due("lost", house.x.ring(3), 0);
        house.x.replay(house.x.ring(1));
        house.thread(0, 3, 3, 0);
        // one that waits is in no ring
        House waits = explored("lock l; lock m; thread A { lock m; lock l; start B; wait l; } thread B later { lock l; lock m; }", 0);
        ring(waits, 0, House.NONE, House.NONE, 1, waits.x.outcome(0, 1), 0);
    }

    private static void ringOutside() {
        House.sentence("the least thread in such a ring (one that stands at a lock of the ring, but holds none of it, is outside)");
        House house = explored("lock a; lock b; lock c; thread A { lock c; lock a; } thread B { lock a; lock b; } thread C { lock b; lock a; }", 0);
        for (int i = 0; i < house.x.explored(3); i++) {
            House.due("sort", house.x.outcome(i, 0), 1);
        }
        House.due("least", house.x.ring(2), 1);
        // at a lock of a thread that ended, went wrong, waits, or stands at a join: no ring
        ring(explored("lock l; thread A { lock l; } thread B { lock l; }", 0), 0, House.NONE, House.NONE, 0, House.NONE, 0);
        ring(explored("lock l; thread A { lock l; assert 0; } thread B { lock l; }", 0), 0, House.NONE, House.NONE, 0, House.NONE, 0);
        ring(explored("lock l; thread A { lock l; join B; } thread B { lock l; }", 0), 0, House.NONE, House.NONE, 0, House.NONE, 0);
        House.due("a lock and a join", explored("lock l; thread A { lock l; start B; join B; } thread B later { lock l; }", 0).x.ring(0), 0);
    }

    private static void ringHowManyEnds() {
        House.sentence("Ends with a RING (0: how many; 1: the least such STATE, NONE), the least thread in a ring there (2, NONE)");
        // two ends with one: r of C is 0 or 1
        House house = explored("cell x; lock a; lock b; thread A { lock a; lock b; } thread B { lock b; lock a; } thread C { r = x; } thread D { x = 1; }", 0);
        House.due("rings", house.x.ring(0), 2);
        int least = house.x.ring(1);
        int found = House.NONE;
        for (int s = 0; s < house.x.explored(0) && found < 0 && s < 150; s++) {
            house.x.replay(s);
            found = house.x.ready(0) == House.NONE && house.x.thread(0, 0) == 1 && house.x.thread(1, 0) == 1 ? s : found;
        }
        House.due("the least", least, found);
    }

    private static void lost() {
        House.sentence("LOST: an end in which some thread WAITS (3, 4 likewise).");
        for (int way = 0; way < 3; way++) {
            ring(explored("lock l; thread A { lock l; wait l; }", way), 0, House.NONE, House.NONE, 1, 2, 0);
            ring(explored("thread A { halt; }", way), 0, House.NONE, House.NONE, 0, House.NONE, 0);
            ring(explored("thread A { join A; }", way), 0, House.NONE, House.NONE, 0, House.NONE, 0);
            // also where another one went wrong
            ring(explored("lock l; thread A { lock l; wait l; } thread B { join A; } thread C { assert 0; }", way), 0, House.NONE, House.NONE, 1, 5, 0);
        }
        // four threads that stand at joins, the first of them at line 2: none waits
        House joins = explored("thread A { fence; fence; join A; } thread B { join A; } thread C { join A; } thread D { join A; }", 0);
        ring(joins, 0, House.NONE, House.NONE, 0, House.NONE, 0);
        // a ring and a lost wake, in one end and in several
        House both = explored("lock a; lock b; lock c; thread A { lock c; wait c; } thread B { lock a; lock b; } thread C { lock b; lock a; }", 0);
        House.due("ends", both.x.explored(2), 3);
        House.due("lost", both.x.ring(3), 3);
        House.due("rings", both.x.ring(0), 1);
        House.due("least thread", both.x.ring(2), 1);
        House apart = explored("cell x; lock a; lock b; lock c; thread A { lock a; lock b; } thread B { r = x; if r { lock b; lock a; } else { lock c; wait c; } } thread C { x = 1; }", 0);
        House.due("least thread", apart.x.ring(2), 0);
        House.due("rings", apart.x.ring(0), 1);
        House.due("lost", apart.x.ring(3), 1);
        // a woken one that gets no lock waits no more
        House woken = explored("lock l; thread A { lock l; start B; wait l; } thread B later { lock l; wake l; }", 0);
        House.due("lost", woken.x.ring(3), 0);
        House.due("sort", woken.x.outcome(0, 0), 1);
        // the wake came ahead of the wait, in one of two ends; of these the least
        House early = explored("lock l; thread A { lock l; wait l; } thread B { lock l; wake l; unlock l; }", 0);
        House.due("ends", early.x.explored(2), 2);
        House.due("lost", early.x.ring(3), 1);
        early.x.replay(early.x.ring(4));
        House.due("how A is", early.x.thread(0, 0), 2);
        House twice = explored("cell x; lock l; thread A { x = 1; lock l; wait l; } thread B { r = x; }", 0);
        House.due("lost", twice.x.ring(3), 2);
        House.due("least", twice.x.ring(4), twice.x.outcome(0, 1));
    }

    private static void ringNone() {
        House.sentence("1: the least such STATE, NONE; 2, NONE; 3, 4 likewise");
        ring(explored("", 0), 0, House.NONE, House.NONE, 0, House.NONE, 0);
        ring(explored("thread A { while 1 { } }", 0), 0, House.NONE, House.NONE, 0, House.NONE, 0);
        // what was found before is forgotten
        House house = explored("lock a; lock b; thread A { lock a; lock b; } thread B { lock b; lock a; }", 0);
        House.due("rings", house.x.ring(0), 1);
        house.read("lock a; lock b; thread A { lock a; }");
        house.x.explore(0, false);
        ring(house, 0, House.NONE, House.NONE, 0, House.NONE, 0);
        House.due("order", house.x.order(0, 1), 0);
    }

    private static void ringAnotherNumber() {
        House.sentence("ring: BAD: another number, too.");
        House house = explored("lock a; lock b; thread A { lock a; lock b; } thread B { lock b; lock a; }", 0);
        int[] others = {-1, 6, 7, 100, Integer.MIN_VALUE, Integer.MAX_VALUE};
        for (int other : others) {
            House.due("ring(" + other + ")", house.x.ring(other), House.BAD);
        }
        House.due("ring(5)", house.x.ring(5), 1);
    }

    private static void orders(House house, int locks, String due) {
        for (int a = 0; a < locks; a++) {
            for (int b = 0; b < locks; b++) {
                int is = due.contains("" + a + b) ? 1 : 0;
                House.due("order(" + a + ", " + b + ")", house.x.order(a, b), is);
            }
        }
    }

    private static void orderOfLocks() {
        House.sentence("An ORDER of locks: a and b, if some STEP takes b, not yet held by the thread, which holds a");
        for (int way = 0; way < 3; way++) {
            orders(explored("lock a; lock b; lock c; lock d; thread A { lock b; lock d; lock a; lock c; }", way), 4, "13 10 12 30 32 02");
            orders(explored("lock a; lock b; thread A { lock a; unlock a; lock b; } thread B { lock b; unlock b; }", way), 2, "");
            // the taking of a woken one
            orders(explored("lock a; lock b; thread A { lock b; lock a; wait b; } thread B { lock b; wake b; unlock b; }", way), 2, "10 01");
            orders(explored("lock a; lock b; thread A { lock b; lock a; unlock b; }", way), 2, "10");
        }
        // held by another thread does not count
        orders(explored("lock a; lock b; thread A { lock a; start B; } thread B later { lock b; }", 0), 2, "");
    }

    private static void orderNotOfHeldOnes() {
        House.sentence("not yet held by the thread");
        orders(explored("lock a; lock b; thread A { lock a; lock b; lock a; unlock a; lock a; }", 0), 2, "01");
        orders(explored("lock a; lock b; thread A { lock a; lock a; }", 0), 2, "");
        orders(explored("lock a; lock b; thread A { lock a; lock b; unlock a; lock a; }", 0), 2, "01 10");
        // a tenth time goes wrong, and takes nothing
        orders(explored("lock a; lock b; thread A { " + House.times(9, "lock a; ") + "lock b; lock a; }", 0), 2, "01");
    }

    private static void orderOfStepsTaken() {
        House.sentence("if some STEP takes b (one that is never READY takes nothing)");
        orders(explored("lock a; lock b; thread A { lock b; } thread B { join A; lock a; lock b; }", 0), 2, "");
        orders(explored("lock a; lock b; thread A { lock a; halt; lock b; }", 0), 2, "");
        // a flush at the line of a lock takes none
        orders(explored("cell x; lock a; lock b; thread A later { lock a; x = 1; lock b; } thread B { lock b; start A; }", 1), 2, "");
        orders(explored("lock a; lock b; thread A { lock a; if 0 { lock b; } }", 0), 2, "");
        orders(explored("lock a; lock b; thread A { lock a; wake a; unlock b; }", 0), 2, "");
        orders(explored("cell c; cell d; lock a; lock b; thread A { lock a; d = 1; r = d; add d, 1; cas d, 1, 2; start B; } thread B later { }", 0), 2, "");
    }

    private static void orderNoneSuch() {
        House.sentence("order: BAD: none such, too.");
        House house = House.of("lock a; lock b; thread A { lock a; lock b; }");
        House.due("of nothing", house.x.order(0, 1), House.BAD);
        house.x.explore(0, false);
        orders(house, 2, "01");
        House.due("order(0, 2)", house.x.order(0, 2), House.BAD);
        House.due("order(2, 0)", house.x.order(2, 0), House.BAD);
        House.due("order(0, -1)", house.x.order(0, -1), House.BAD);
        House.due("order(-1, 0)", house.x.order(-1, 0), House.BAD);
        for (int other : OTHERS) {
            House.due("order(" + other + ", 0)", house.x.order(other, 0), House.BAD);
            House.due("order(0, " + other + ")", house.x.order(0, other), House.BAD);
        }
        House.due("without locks", explored("thread A { }", 0).x.order(0, 0), House.BAD);
    }

    private static void crossed() {
        House.sentence("CROSSED: orders that go round.");
        String head = "lock a; lock b; lock c; lock d; thread A { ";
        String[] goRound = {"lock a; lock b; unlock a; lock a;", "lock a; lock b; unlock a; lock c; unlock b; lock a;",
            "lock a; lock b; unlock a; lock c; unlock b; lock d; unlock c; lock a;", "lock d; lock c; unlock d; lock b; unlock c; lock d;",
            "lock c; lock d; unlock c; lock b; unlock d; lock c;"};
        String[] goOn = {"", "lock a; lock b; lock c; lock d;", "lock d; lock c; lock b; lock a;", "lock a; lock b; unlock b; lock c; unlock c; lock d;",
            "lock b; lock a; unlock b; lock d; unlock a; lock c;", "lock a; unlock a; lock b; unlock b; lock a;"};
        for (String locks : goRound) {
            House.due("crossed by " + locks, explored(head + locks + " }", 0).x.ring(5), 1);
        }
        for (String locks : goOn) {
            House.due("crossed by " + locks, explored(head + locks + " }", 0).x.ring(5), 0);
        }
        // by several threads together, also where no end has a ring
        House house = explored("lock g; lock a; lock b; thread A { lock g; lock a; lock b; unlock b; unlock a; unlock g; }"
            + " thread B { lock g; lock b; lock a; unlock a; unlock b; unlock g; }", 0);
        ring(house, 0, House.NONE, House.NONE, 0, House.NONE, 1);
    }

    private static void nothingExplored() {
        House.sentence("findings (BAD: nothing was explored).");
        House house = House.of("cell x; lock l; thread A { x = 1; } thread B { x = 2; }");
        for (int i = 0; i < 2; i++) {
            for (int what = -1; what < 4; what++) {
                House.due("race(-1, " + what + ")", house.x.race(-1, what), House.BAD);
                House.due("race(0, " + what + ")", house.x.race(0, what), House.BAD);
            }
            House.due("guard(0)", house.x.guard(0), House.BAD);
            for (int what = -1; what < 7; what++) {
                House.due("ring(" + what + ")", house.x.ring(what), House.BAD);
            }
            House.due("order(0, 0)", house.x.order(0, 0), House.BAD);
            House.due("begin", house.x.begin(0), 2);
        }
    }
}
