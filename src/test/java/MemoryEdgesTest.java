/** Edges of section 4 and of promise 13: each test goes by one sentence of the document. */
public final class MemoryEdgesTest {
    private static final int[] OTHERS = {-1, -2, -100, Integer.MIN_VALUE, Integer.MAX_VALUE, 1000};

    public static void main(String[] args) {
        oneMemory();
        bufferOfThree();
        latestWriteInTheBuffer();
        readyWithAnEmptyBuffer();
        readyWithAnyBuffer();
        joinOfABuffer();
        takingWithAnEmptyBuffer();
        flushOfTheOldest();
        flushesBehindTheEnd();
        fullBufferIsAskedFirst();
        choicesOfALoad();
        lastWriteOfAVolatile();
        viewsOfWrites();
        swapsAndSumsByTheLastWrite();
        viewsOfLocks();
        viewsOfThreads();
        viewOfTheFence();
        nineWrites();
        memoryIsTheLastWrite();
        whatTellsStatesApart();
        whatTellsStatesOfViewsApart();
        whatTellsStatesOfBuffersApart();
        sortsOfEnds();
        outcomesOfEnds();
        seenNoneSuch();
        House.finish();
    }

    /** The values that a thread's next line may tell are these, and no more. */
    private static void seen(House house, int t, int... due) {
        for (int i = 0; i < due.length; i++) {
            House.due("seen(" + t + ", " + i + ")", house.x.seen(t, i), due[i]);
        }
        House.due("seen(" + t + ", " + due.length + ")", house.x.seen(t, due.length), House.NO_VALUE);
    }

    private static void oneMemory() {
        House.sentence("0 TURNS: one memory.");
        House house = House.of("cell x; cell v volatile; thread A { x = 1; v = 2; } thread B { r = x; r = v; }");
        house.begin(0, 0);
        House.due("x", house.x.cell(0), 1);
        House.due("buffer", house.x.thread(0, 3), 0);
        house.readySteps(0, 10);
        seen(house, 1, 1);
        house.turns(10, 0);
        seen(house, 1, 2);
        house.begin(2, 0);
        House.due("buffer by views", house.x.thread(0, 3), 0);
    }

    private static void bufferOfThree() {
        House.sentence("each thread has a BUFFER of at most 3 writes; a STORE .. puts one behind the others (READY with less than 3)");
        House house = House.of("cell x; cell y; thread A { x = 1; y = 2; x = 3; y = 4; x = 5; } thread B { x = 6; x = 7; x = 8; x = 9; }");
        house.x.begin(1);
        int[] stores = {0, 0, 0};
        for (int i = 0; i < stores.length; i++) {
            House.due("buffer", house.x.thread(0, 3), i);
            house.turns(stores[i]);
        }
        House.due("buffer", house.x.thread(0, 3), 3);
        house.readySteps(9, 10);
        House.due("turn of a full buffer", house.x.turn(0, 0), House.NONE);
        // each thread has its own
        house.turns(10, 10, 10);
        house.readySteps(9, 19);
        House.due("x", house.x.cell(0), 0);
        house.turns(9);
        House.due("buffer", house.x.thread(0, 3), 2);
        house.readySteps(0, 9, 19);
        house.turns(0);
        house.readySteps(9, 19);
        House.due("x", house.x.cell(0), 1);
        house.turns(9);
        House.due("y", house.x.cell(1), 2);
        house.turns(19);
        House.due("x", house.x.cell(0), 6);
        house.turns(9);
        House.due("x", house.x.cell(0), 3);
        house.turns(9);
        House.due("y", house.x.cell(1), 4);
        House.due("buffer", house.x.thread(0, 3), 0);
        house.readySteps(0, 10, 19);
    }

    private static void latestWriteInTheBuffer() {
        House.sentence("a LOAD tells the thread's latest write to the cell in its buffer, else the memory's");
        House house = House.of("cell w = 9; cell x = - 7; cell y = 8; thread A { x = 1; y = 2; x = - 999; r = x; r = y; r = w; x = 4; r = x; } thread B { r = x; }");
        house.begin(1, 0);
        seen(house, 1, -7);
        house.turns(0, 0);
        seen(house, 0, -999);
        seen(house, 1, -7);
        house.turns(0);
        House.due("r", house.x.local(0, 0), -999);
        seen(house, 0, 2);
        house.turns(0);
        seen(house, 0, 9);
        house.turns(9);
        seen(house, 1, 1);
        house.turns(9, 9, 0, 0);
        seen(house, 0, 4);
        seen(house, 1, -999);
        house.turns(9);
        seen(house, 0, 4);
        seen(house, 1, 4);
    }

    private static void readyWithAnEmptyBuffer() {
        House.sentence("a STORE to a volatile cell, cas, add, fence, lock, unlock, wait, wake, wakeall, start, join are READY (and done in the memory)"
            + " just when the own buffer is empty");
        String[] statements = {"v = 7", "cas x, 1, 7", "cas v, 1, 7", "add x, 6", "add v, 7", "fence", "lock k", "lock l", "unlock l", "wait l",
            "wake l", "wakeall l", "start C", "join D", "unlock k", "start A", "cas x, 999 + 1, 1", "v = 999 + 1"};
        for (String statement : statements) {
            House house = House.of("cell x; cell v volatile; lock k; lock l; thread A { lock l; x = 1; " + statement + "; } thread B { r = x; } thread C later { }"
                + " thread D { }");
            house.begin(1, 0, 0);
            house.readySteps(9, 10);
            House.due("turn of " + statement, house.x.turn(0, 0), House.NONE);
            house.turns(9);
            house.readySteps(0, 10);
            house.turns(0);
            House.due("buffer behind " + statement, house.x.thread(0, 3), 0);
            House.due("the line was done", house.x.step(3, 2), 2);
        }
        House house = House.of("cell x; cell v volatile; thread A { v = 7; cas x, 0, 5; add x, 1; }");
        house.begin(1, 0);
        House.due("v", house.x.cell(1), 7);
        house.turns(0);
        House.due("x", house.x.cell(0), 5);
        house.turns(0);
        House.due("x", house.x.cell(0), 6);
        // not till the last write has gone
        House two = House.of("cell x; thread A { x = 1; x = 2; x = 3; fence; }");
        two.begin(1, 0, 0, 0);
        for (int i = 0; i < 3; i++) {
            two.readySteps(9);
            two.turns(9);
        }
        two.readySteps(0);
    }

    private static void readyWithAnyBuffer() {
        House.sentence("(a line that is none of these is READY whatever the buffer has)");
        String[] statements = {"r = 1;", "r = x;", "r = v;", "halt;", "assert 1;", "assert 0;", "call w 1;", "reply;", "if 1 { }", "while 0 { }"};
        for (String statement : statements) {
            House house = House.of("cell x; cell v volatile; thread A { x = 1; x = 2; x = 3; " + statement + " }");
            house.begin(1, 0, 0, 0);
            house.readySteps(0, 9);
            house.turns(0);
            house.readySteps(9);
            House.due("buffer", house.x.thread(0, 3), 3);
        }
    }

    private static void joinOfABuffer() {
        House.sentence("(join: the other one's, too)");
        House house = House.of("cell x; thread A { x = 1; x = 2; } thread B { join A; } thread C { x = 3; join A; }");
        house.begin(1, 0, 0);
        house.readySteps(9, 20);
        house.turns(9);
        house.readySteps(9, 20);
        house.turns(20);
        house.readySteps(9, 29);
        house.turns(9);
        // the other one's is empty, C's own is not
        house.readySteps(10, 29);
        house.turns(29);
        house.readySteps(10, 20);
        house.turns(10, 20);
        house.thread(1, 4, House.NONE, 0);
        house.thread(2, 4, House.NONE, 0);
    }

    private static void takingWithAnEmptyBuffer() {
        House.sentence("the taking of a WOKEN one");
        House house = House.of("cell x; lock l; thread A { lock l; wait l; x = 5; } thread B { lock l; wake l; unlock l; x = 1; }");
        house.begin(1, 0, 0, 10, 10, 10, 10);
        // another thread's buffer is no matter
        house.readySteps(0, 19);
        house.turns(0);
        House.due("who", house.x.held(0, 0), 0);
        House.due("how often", house.x.held(0, 1), 1);
        house.readySteps(0, 19);
    }

    private static void flushOfTheOldest() {
        House.sentence("A FLUSH is a STEP of its own of a thread with a buffer that is not empty: its oldest write goes to memory: CHOICE 9.");
        House house = House.of("cell x; cell y; thread A { x = - 999; y = 999; x = 1; halt; } thread B { y = 5; }");
        house.begin(1);
        House.due("flush of nothing", house.x.turn(0, 9), House.NONE);
        house.turns(0, 0, 0, 10);
        house.readySteps(0, 9, 19);
        int[][] due = {{-999, 0}, {-999, 999}, {1, 999}};
        for (int i = 0; i < 3; i++) {
            house.turns(9);
            House.due("x", house.x.cell(0), due[i][0]);
            House.due("y", house.x.cell(1), due[i][1]);
            House.due("thread", house.x.step(4 + i, 0), 0);
            House.due("choice", house.x.step(4 + i, 1), 9);
            House.due("line", house.x.step(4 + i, 2), House.NONE);
            // it is no line: the thread stands where it stood
            house.thread(0, 1, 3, 0);
        }
        house.readySteps(0, 19);
        House.due("flush of nothing", house.x.turn(0, 9), House.NONE);
        house.turns(19);
        House.due("y", house.x.cell(1), 5);
        for (int way = 0; way < 3; way += 2) {
            house.begin(way, 0);
            House.due("no flush by way " + way, house.x.turn(0, 9), House.NONE);
        }
    }

    private static void flushesBehindTheEnd() {
        House.sentence("(A thread that ENDED, went WRONG, or WAITS still has its FLUSHES.)");
        String[] ends = {"halt;", "assert 0;", "r = 999 + 1;", ""};
        int[] due = {4, 5, 5, 4};
        for (int i = 0; i < ends.length; i++) {
            House house = House.of("cell x; thread A { x = 1; x = 2; " + ends[i] + " } thread B { r = x; }");
            house.begin(1, 0, 0);
            if (!ends[i].isEmpty()) {
                house.turns(0);
            }
            House.due("how A is", house.x.thread(0, 0), due[i]);
            house.readySteps(9, 10);
            house.turns(9);
            House.due("x", house.x.cell(0), 1);
            house.turns(9);
            House.due("x", house.x.cell(0), 2);
            house.readySteps(10);
            House.due("how A is", house.x.thread(0, 0), due[i]);
            // it is no end while there is a flush
            house.x.explore(1, false);
            for (int end = 0; end < house.x.explored(3); end++) {
                House.due("x of outcome " + end, house.x.outcomeCell(end, 0), 2);
            }
        }
    }

    private static void fullBufferIsAskedFirst() {
        House.sentence("(Whether a line is READY is asked before whether it goes WRONG.)");
        House house = House.of("cell x; thread A { x = 1; x = 2; x = 3; x = 999 + 1; }");
        house.begin(1, 0, 0, 0);
        house.readySteps(9);
        house.turns(9);
        house.readySteps(0, 9);
        house.turns(0);
        house.thread(0, 5, House.NONE, 1);
        House.due("buffer", house.x.thread(0, 3), 2);
        String nine = House.times(8, "x = 1; ");
        String[] last = {"x = 999 + 1;", "add x, 999;", "add x, 999 + 1;"};
        for (String statement : last) {
            House full = House.of("cell x; thread A { " + nine + statement + " }");
            full.begin(2, new int[8]);
            full.readySteps();
            full.thread(0, 1, 8, 0);
            full.begin(0, new int[9]);
            full.thread(0, 5, House.NONE, 1);
        }
    }

    private static void choicesOfALoad() {
        House.sentence("A LOAD of a cell that is not volatile: CHOICE k: it tells the write that is k behind the thread's VIEW of the cell, which is the VIEW's then.");
        House house = House.of("cell x = 50; thread A { x = 51; x = 52; x = 53; x = 54; } thread B { r = x; r = x; r = x; r = x; } thread C { r = x; }");
        house.begin(2, 0, 0, 0, 0);
        seen(house, 1, 50, 51, 52, 53, 54);
        seen(house, 2, 50, 51, 52, 53, 54);
        house.readySteps(10, 11, 12, 13, 14, 20, 21, 22, 23, 24);
        House.due("turn(1, 5)", house.x.turn(1, 5), House.NONE);
        house.turns(12);
        House.due("r", house.x.local(1, 0), 52);
        House.due("choice", house.x.step(4, 1), 2);
        seen(house, 1, 52, 53, 54);
        seen(house, 2, 50, 51, 52, 53, 54);
        house.turns(10);
        seen(house, 1, 52, 53, 54);
        house.turns(12);
        House.due("r", house.x.local(1, 0), 54);
        seen(house, 1, 54);
        house.readySteps(10, 20, 21, 22, 23, 24);
    }

    private static void lastWriteOfAVolatile() {
        House.sentence("A LOAD of a volatile cell tells the last write, and the thread's VIEW is joined with that of the write.");
        House house = House.of("cell x; cell y; cell v volatile = 3; thread A { x = 1; v = 4; y = 1; v = 5; } thread B { r = v; s = x; s = y; }");
        house.begin(2, 0);
        house.readySteps(0, 10);
        seen(house, 1, 3);
        house.turns(0, 0);
        seen(house, 1, 4);
        house.turns(0);
        seen(house, 1, 5);
        house.readySteps(10);
        house.turns(10);
        House.due("r", house.x.local(1, 0), 5);
        seen(house, 1, 1);
        house.turns(10);
        seen(house, 1, 1);
        // the first value tells nothing
        house.begin(2, 0, 10, 0);
        seen(house, 1, 0, 1);
        house.turns(0);
        // of two writes the last one counts, with what was known then
        house.begin(2, 0, 0, 0, 10, 0);
        House.due("r", house.x.local(1, 0), 4);
        seen(house, 1, 1);
        house.turns(10);
        seen(house, 1, 0, 1);
        // the join keeps what was known already
        House joined = House.of("cell x; cell y; cell v volatile; thread A { x = 1; v = 1; } thread B { y = 1; r = v; s = y; s = x; }");
        joined.begin(2, 0, 0, 10, 10);
        seen(joined, 1, 1);
        joined.turns(10);
        seen(joined, 1, 1);
    }

    private static void viewsOfWrites() {
        House.sentence("A STORE is the cell's last write then, and the thread's VIEW has it; the write's VIEW is the thread's, of a cell that is not volatile 0 everywhere.");
        House house = House.of("cell x; cell y; thread A { x = 1; y = 1; r = x; r = y; } thread B { r = y; r = x; } thread C { add y, 0; r = x; }");
        house.begin(2, 0, 0);
        seen(house, 0, 1);
        house.turns(0);
        seen(house, 0, 1);
        // neither a load nor an add learns from a store to a cell that is not volatile
        house.turns(11);
        seen(house, 1, 0, 1);
        house.turns(20);
        seen(house, 2, 0, 1);
        // a store behind writes that the thread has not seen is the last one all the same
        House late = House.of("cell x; thread A { x = 1; x = 2; } thread B { x = 3; r = x; } thread C { r = x; }");
        late.begin(2, 0, 0, 10);
        seen(late, 1, 3);
        seen(late, 2, 0, 1, 2, 3);
        House.due("x", late.x.cell(0), 3);
        // a volatile write's view has the write itself
        ends("cell v volatile; thread A { r = v; } thread B { v = 0; }", 2, 2);
    }

    private static void swapsAndSumsByTheLastWrite() {
        House.sentence("cas and add go by the last write: the thread's VIEW has it, and is joined with that of this write; if they write, that is as a STORE to a volatile cell.");
        String[] firsts = {"cas y, 0, 5", "add y, 5"};
        String[] seconds = {"cas y, 5, 6", "cas y, 7, 8", "add y, 1", "add y, 0"};
        for (String first : firsts) {
            for (String second : seconds) {
                House house = House.of("cell w; cell x; cell y; thread A { x = 1; x = 2; " + first + "; w = 1; } thread B { " + second + "; r = x; r = y; r = w; }");
                house.begin(2, 0, 0, 0, 0);
                house.readySteps(10);
                house.turns(10);
                seen(house, 1, 2);
                house.turns(10);
                House.due("as many as that", house.x.seen(1, 1), House.NO_VALUE);
                house.turns(10);
                seen(house, 1, 0, 1);
            }
        }
        // a cas that does not write leaves the last write as it is: a later one learns from that alone
        House fails = House.of("cell x; cell y; cell z; thread A { z = 1; add y, 1; } thread B { x = 1; cas y, 7, 8; } thread C { add y, 0; r = x; r = z; }");
        fails.begin(2, 0, 0, 10, 10, 20);
        seen(fails, 2, 0, 1);
        fails.turns(20);
        seen(fails, 2, 1);
        // the last write, not the one that the thread has seen
        House last = House.of("cell x; thread A { x = 5; x = 6; } thread B { cas x, 0, 9 into r; cas x, 6, 7 into s; add x, 1 into t; r = x; }");
        last.begin(2, 0, 0, 10, 10, 10);
        House.due("r", last.x.local(1, 0), 0);
        House.due("s", last.x.local(1, 1), 1);
        House.due("t", last.x.local(1, 2), 7);
        seen(last, 1, 8);
        // one that goes wrong sees nothing: its view stays 0, as a state that is found by other ways, too
        House wrong = House.of("cell x = 999; thread A { x = 999; } thread B { add x, 1; }");
        House.due("states", wrong.x.explore(2, false), 4);
    }

    private static void viewsOfLocks() {
        House.sentence("lock, the taking of a WOKEN one: the thread's is joined with the lock's. unlock, wait: the lock's is the thread's.");
        House house = House.of("cell x; cell y; lock l; lock m; thread A { x = 1; lock l; unlock l; } thread B { y = 1; lock l; r = x; unlock l; }"
            + " thread C { lock m; r = x; lock l; r = x; r = y; }");
        house.begin(2, 0, 0, 0, 10, 10);
        seen(house, 1, 1);
        house.turns(20);
        // another lock tells nothing
        seen(house, 2, 0, 1);
        house.turns(20, 10, 10, 20);
        seen(house, 2, 1);
        house.turns(20);
        seen(house, 2, 1);
        // what is stored behind the unlock is not told
        House behind = House.of("cell x; lock l; thread A { lock l; unlock l; x = 1; } thread B { lock l; r = x; }");
        behind.begin(2, 0, 0, 0, 10);
        seen(behind, 1, 0, 1);
        // nor what is stored while it is held
        House held = House.of("cell x; lock l; thread A { lock l; x = 1; wait l; r = x; } thread B { r = x; lock l; r = x; x = 2; wakeall l; unlock l; }");
        held.begin(2, 0, 0);
        seen(held, 1, 0, 1);
        held.turns(10, 0, 10);
        seen(held, 1, 1);
        held.turns(10, 10, 10, 10, 0);
        seen(held, 0, 2);
        // a wake tells nothing by itself
        House wake = House.of("cell x; lock l; thread A { lock l; wait l; } thread B { lock l; wake l; r = x; } thread C { x = 1; }");
        wake.begin(2, 0, 0, 20, 10, 10);
        seen(wake, 1, 0, 1);
        // an unlock tells the lock also while the thread holds it still
        House twice = House.of("cell x; lock l; thread A { lock l; lock l; x = 1; unlock l; } thread B { r = x; }");
        twice.begin(2, 0, 0, 0, 0);
        House.due("how often", twice.x.held(0, 1), 1);
    }

    private static void viewsOfThreads() {
        House.sentence("start: the other one's is this one's. join: joined with that of the other one.");
        House house = House.of("cell x; cell y; thread A { x = 1; start B; x = 2; join B; r = y; r = x; } thread B later { r = x; y = 1; } thread C { x = 3; }");
        house.begin(2, 0, 0, 0);
        seen(house, 1, 1, 2);
        house.turns(20, 10, 10, 0);
        seen(house, 0, 1);
        house.turns(0);
        seen(house, 0, 2, 3);
        // a thread that runs from the first knows nothing at first
        House first = House.of("cell x; thread A { x = 1; } thread B { r = x; }");
        first.begin(2, 0);
        seen(first, 1, 0, 1);
    }

    private static void viewOfTheFence() {
        House.sentence("fence: the thread's and the FENCE's become both joined.");
        House house = House.of("cell x; cell y; thread A { x = 1; fence; r = y; } thread B { y = 1; fence; r = x; r = y; } thread C { r = x; fence; r = x; r = y; }");
        house.begin(2, 0, 0, 10, 10);
        seen(house, 1, 1);
        seen(house, 0, 0, 1);
        seen(house, 2, 0, 1);
        house.turns(20, 20);
        // B's fence has joined what A's knew
        seen(house, 2, 1);
        house.turns(20);
        seen(house, 2, 1);
    }

    private static void nineWrites() {
        House.sentence("WRITES, 0 (the first value), 1, .. (9 in all at most); With 9 writes of the cell a STORE, add, and a cas that would write a value within 999 are not READY.");
        String[] statements = {"x = 9", "add x, 0", "add x, 1 into r", "cas x, 8, 9", "cas x, 8, 8 into r", "cas x, 8, - 999", "cas x, 8, 999"};
        for (String statement : statements) {
            String seven = "x = 2; x = 3; x = 4; x = 5; x = 6; x = 7; x = 8; ";
            House eight = House.of("cell x; thread A { " + seven + statement + "; }");
            eight.begin(2, new int[7]);
            eight.readySteps(0);
            eight.turns(0);
            eight.thread(0, 4, House.NONE, 0);
            House nine = House.of("cell x; cell y; thread A { y = 1; x = 1; " + seven + statement + "; } thread B { " + statement + "; }");
            nine.begin(2, new int[9]);
            nine.readySteps();
            House.due("turn of " + statement, nine.x.turn(0, 0), House.NONE);
            nine.thread(0, 1, 9, 0);
            House.due("x", nine.x.cell(0), 8);
            // the other ways have no such end
            nine.begin(0, new int[9]);
            nine.readySteps(0, 10);
        }
        String[] ready = {"cas x, 7, 9 into r", "cas x, 0, 9", "cas x, 8, 999 + 1", "cas x, 7, 999 + 1", "cas x, 999 + 1, 9", "cas x, 999 + 1, 999 + 1"};
        for (int i = 0; i < ready.length; i++) {
            House nine = House.of("cell x; thread A { x = 1; x = 2; x = 3; x = 4; x = 5; x = 6; x = 7; x = 8; " + ready[i] + "; }");
            nine.begin(2, new int[8]);
            nine.readySteps(0);
            nine.turns(0);
            nine.thread(0, i < 2 ? 4 : 5, House.NONE, i < 2 ? 0 : 1);
            House.due("x", nine.x.cell(0), 8);
        }
        // by the values of that cell, whichever it is
        String[] cells = {"w", "x", "y", "z"};
        for (String cell : cells) {
            House each = House.of("cell w = 1; cell x = 2; cell y = 3; cell z = 4; thread A { " + House.times(8, cell + " = 7; ") + "cas " + cell + ", 7, 8; } thread B { "
                + "cas " + cell + ", 6, 8; }");
            each.begin(2, new int[8]);
            each.readySteps(10);
        }
        // of each cell nine, and of a volatile one, too
        House other = House.of("cell x; cell v volatile; thread A { v = 1; v = 2; v = 3; v = 4; v = 5; v = 6; v = 7; v = 8; x = 1; v = 9; } thread B { r = v; }");
        other.begin(2, new int[9]);
        other.readySteps(10);
        seen(other, 1, 8);
        House all = House.of("cell x = 10; thread A { x = 11; x = 12; x = 13; x = 14; x = 15; x = 16; x = 17; x = 18; } thread B { r = x; }");
        all.begin(2, new int[8]);
        seen(all, 1, 10, 11, 12, 13, 14, 15, 16, 17, 18);
        all.readySteps(10, 11, 12, 13, 14, 15, 16, 17, 18);
        House.due("turn(1, 9)", all.x.turn(1, 9), House.NONE);
        all.turns(18);
        House.due("r", all.x.local(1, 0), 18);
    }

    private static void memoryIsTheLastWrite() {
        House.sentence("MEMORY is each cell's last write.");
        House house = House.of("cell x = - 5; cell y = 6; thread A { x = 1; x = 2; add y, 1; }");
        house.x.begin(2);
        int[][] due = {{-5, 6}, {1, 6}, {2, 6}, {2, 7}};
        for (int i = 0; i < due.length; i++) {
            House.due("x", house.x.cell(0), due[i][0]);
            House.due("y", house.x.cell(1), due[i][1]);
            house.x.turn(0, 0);
        }
    }

    /** So many ends, all with one outcome: the states differ by what no outcome has. */
    private static void ends(String program, int way, int ends) {
        House house = House.of(program);
        house.x.explore(way, false);
        House.due("ends of " + program, house.x.explored(2), ends);
        House.due("outcomes of " + program, house.x.explored(3), 1);
    }

    private static void whatTellsStatesApart() {
        House.sentence("A STATE is all that is told of threads (next lines, how they are, why they went WRONG, how often a waiting or WOKEN one had its lock, LOCALS), locks, memory");
        String head = "cell x; lock k; lock l; thread A { r = x; if r { r = 0; ";
        String tail = " } thread B { x = 1; } ";
        // by views the threads' views differ, too
        for (int way = 0; way < 2; way++) {
            ends(head + "lock l; } else { lock k; }" + tail, way, 2);
            ends(head + "lock l; lock l; } else { lock l; }" + tail, way, 2);
            ends(head + "join A; } else { r = 0; } join A;" + tail, way, 2);
            ends(head + "assert 0; } else { unlock l; }" + tail, way, 2);
            ends(head + "lock l; } lock l; wait l;" + tail, way, 2);
            ends(head + "lock l; } lock l; start C; wait l;" + tail + "thread C later { lock l; wake l; }", way, 2);
            ends(head + "start C; }" + tail + "thread C later { }", way, 2);
            ends(head + "} halt;" + tail, way, 1);
        }
        // of each lock, also where there are more locks than threads
        String[] locks = {"i", "j", "k", "l"};
        for (String lock : locks) {
            String all = "cell x; lock i; lock j; lock k; lock l; ";
            String once = "lock " + lock + "; ";
            ends(all + "thread A { r = x; if r { r = 0; " + once + "} " + once + "} thread B { x = 1; }", 0, 2);
            ends(all + "thread A { r = x; if r { r = 0; " + once + "} } thread B { x = 1; }", 1, 2);
            ends(all + "thread A { r = x; " + once + "unlock " + lock + "; join B; } thread B { x = 0; }", 2, 2);
        }
        // next lines and locals alone
        House house = House.of("thread A { r = 0; r = 1; r = 1; }");
        House.due("states", house.x.explore(0, false), 4);
        House loop = House.of("cell x; thread A { while 1 { r = 1 - r; } }");
        House.due("states", loop.x.explore(0, false), 4);
        House same = House.of("thread A { while 1 { r = 1; } }");
        House.due("states", same.x.explore(0, false), 4);
        House none = House.of("thread A { while 1 { r = 0; } }");
        House.due("states", none.x.explore(0, false), 2);
        House memory = House.of("cell x; thread A { while 1 { add x, 1; cas x, 3, 0; } }");
        House.due("states", memory.x.explore(0, false), 9);
    }

    private static void whatTellsStatesOfViewsApart() {
        House.sentence("A STATE is all that is told of .. WRITES and VIEWS.");
        // B's write has the value that y had: what A saw of it is in views alone
        String other = " thread B { y = 0; }";
        ends("cell y; thread A { r = y; }" + other, 2, 2);
        ends("cell y; thread A { r = y; join B; }" + other, 2, 1);
        ends("cell y; lock l; thread A { r = y; lock l; unlock l; join B; }" + other, 2, 2);
        ends("cell y; lock l; thread A { r = y; lock l; lock l; unlock l; join B; }" + other, 2, 2);
        ends("cell y; lock l; thread A { r = y; lock l; join B; unlock l; }" + other, 2, 1);
        ends("cell y; lock l; thread A { lock l; r = y; wait l; }" + other, 2, 2);
        ends("cell y; thread A { r = y; fence; join B; }" + other, 2, 2);
        ends("cell y; thread A { r = y; join B; fence; }" + other, 2, 1);
        ends("cell v volatile; cell y; thread A { r = y; v = 1; join B; }" + other, 2, 2);
        ends("cell v; cell y; thread A { r = y; v = 1; join B; }" + other, 2, 1);
        ends("cell v; cell y; thread A { r = y; add v, 1; join B; }" + other, 2, 2);
        ends("cell v; cell y; thread A { r = y; cas v, 1, 1; join B; }" + other, 2, 1);
        // an older write of x is 0 or 1
        ends("cell x; cell y; thread A { r = y; x = r; r = 0; x = 5; join B; } thread B { y = 1; }", 2, 2);
        ends("cell x; cell y; thread A { r = y; r = 0; x = r; x = 5; join B; } thread B { y = 1; }", 2, 1);
        // one write more
        ends("cell x; cell y; thread A { r = y; if r { x = 5; } r = 0; x = 5; join B; } thread B { y = 1; }", 2, 2);
    }

    private static void whatTellsStatesOfBuffersApart() {
        House.sentence("A STATE is all that is told of .. BUFFERS");
        // no write, one of 0, none again; the same of two
        House.due("states", House.of("cell x; thread A { x = 0; }").x.explore(1, false), 3);
        House.due("states", House.of("cell x; thread A { x = 0; x = 0; }").x.explore(1, false), 6);
        // which cell, which value, in which order
        String both = "cell x; cell y; cell z; thread A { r = z; if r { r = 0; ";
        String tail = " } thread B { z = 1; }";
        int cells = House.of(both + "x = 0; } else { y = 0; }" + tail).x.explore(1, false);
        int same = House.of(both + "x = 0; } else { x = 0; }" + tail).x.explore(1, false);
        House.due("cells tell apart", cells - same > 0 ? 1 : 0, 1);
        House order = House.of("cell x; cell y; thread A { r = y; if r { x = 1; x = 2; } else { x = 2; x = 1; } }");
        order.x.explore(1, false);
        House.due("outcomes", order.x.explored(3), 1);
    }

    private static void sort(String program, int way, int due) {
        House house = House.of(program);
        house.x.explore(way, false);
        House.due("outcomes of " + program, house.x.explored(3), 1);
        House.due("sort of " + program, house.x.outcome(0, 0), due);
    }

    private static void sortsOfEnds() {
        House.sentence("It ENDS when no STEP is READY: sort 0 all threads that were started have ENDED; else 2 if some thread went WRONG, else 1.");
        for (int way = 0; way < 3; way++) {
            sort("", way, 0);
            sort("cell x; lock l;", way, 0);
            sort("thread A { }", way, 0);
            sort("thread A later { assert 0; }", way, 0);
            sort("thread A { } thread B later { assert 0; } thread C { fence; }", way, 0);
            sort("thread A { start B; } thread B later { }", way, 0);
            sort("lock l; thread A { lock l; lock l; }", way, 0);
            sort("thread A { join A; }", way, 1);
            sort("thread A { join B; } thread B later { }", way, 1);
            sort("lock l; thread A { lock l; wait l; }", way, 1);
            sort("lock l; thread A { lock l; wakeall l; wait l; } thread B { join A; assert 0; }", way, 1);
            sort("thread A { assert 0; }", way, 2);
            sort("thread A { assert 0; } thread B { }", way, 2);
            sort("thread A { join A; } thread B { assert 0; }", way, 2);
            sort("thread A { assert 0; } thread B later { }", way, 2);
            sort("lock l; thread A { lock l; wait l; } thread B { assert 0; }", way, 2);
            sort("thread A { start B; } thread B later { assert 0; }", way, 2);
        }
        // a full row of writes ends by views alone
        sort("cell x; thread A { " + House.times(9, "x = 1;") + " }", 0, 0);
        sort("cell x; thread A { " + House.times(9, "x = 1;") + " }", 2, 1);
    }

    private static void outcomesOfEnds() {
        House.sentence("The OUTCOME of an end: its sort, the memory, all LOCALS.");
        String[] programs = {"cell x; thread A { cas x, 0, 1; } thread B { cas x, 0, 2; }", "cell x; thread A { r = x; } thread B { x = 1; add x, - 1; }",
            "cell x; thread A { r = x; if r { r = 0; join A; } } thread B { x = 1; }"};
        int[][] due = {{2, 2}, {2, 2}, {2, 2}};
        for (int i = 0; i < programs.length; i++) {
            House house = House.of(programs[i]);
            house.x.explore(0, false);
            House.due("ends of " + programs[i], house.x.explored(2), due[i][0]);
            House.due("outcomes of " + programs[i], house.x.explored(3), due[i][1]);
        }
        House sorts = House.of("cell x; thread A { r = x; if r { r = 0; join A; } } thread B { x = 1; }");
        sorts.x.explore(0, false);
        House.due("sorts", sorts.x.outcome(0, 0) + sorts.x.outcome(1, 0), 1);
    }

    private static void seenNoneSuch() {
        House.sentence("The i-th value that the thread's next line, a LOAD, may tell now, by CHOICES. - 1,000: no run, no such thread, line, value.");
        House house = House.of("cell x = 4; lock l; thread A { r = x; x = 5; cas x, 5, 6; add x, 1; r = 1; } thread B { lock l; wait l; r = x; } thread C later { r = x; } thread D { }");
        House.due("seen without a run", house.x.seen(0, 0), House.NO_VALUE);
        for (int way = 0; way < 3; way++) {
            house.begin(way);
            seen(house, 0, 4);
            for (int other : OTHERS) {
                House.due("seen(" + other + ", 0)", house.x.seen(other, 0), House.NO_VALUE);
                House.due("seen(0, " + other + ")", house.x.seen(0, other), House.NO_VALUE);
            }
            House.due("seen(4, 0)", house.x.seen(4, 0), House.NO_VALUE);
            seen(house, 1);
            seen(house, 2);
            seen(house, 3);
            house.turns(10, 10);
            // its next line is the wait
            seen(house, 1);
            house.turns(0);
            for (int line = 1; line < 5; line++) {
                house.thread(0, 1, line, 0);
                seen(house, 0);
                if (way == 1 && line == 2) {
                    house.turns(9);
                }
                house.turns(0);
            }
            seen(house, 0);
        }
    }
}
