/** As much as a program may have, all at once: what one part is told of leaves the others as they are. */
public final class LargestEdgesTest {
    private static final String CELLS = "cell a = 1; cell b = 2; cell c = 3; cell d = 4; cell e = 5; cell f = 6; cell g = 7; cell h = 8; ";
    private static final String LOCKS = "lock i; lock j; lock k; lock l; ";

    public static void main(String[] args) {
        everyPlace();
        everyPlaceInAnEnd();
        fullBuffers();
        thirtySixSteps();
        everyWrite();
        viewsOfTheLastWriteAlone();
        viewsOfFirstValues();
        joinOfEightCells();
        choicesOfEveryCell();
        locksAndFenceApart();
        noneBehindTheLast();
        hundredLines();
        outcomesOfTheLargest();
        switchesOfTheLargest();
        House.finish();
    }

    /** A thread of six locals, which has its locals, two cells, and its lock so often. */
    private static String thread(String name, String later, int t, String next) {
        StringBuilder text = new StringBuilder("thread " + name + " " + later + "{ ");
        for (int n = 0; n < 6; n++) {
            text.append((char) ('p' + n)).append(" = ").append(100 * (t + 1) + n).append("; ");
        }
        text.append(House.times(t + 1, "lock " + (char) ('i' + t) + "; "));
        text.append((char) ('a' + 2 * t)).append(" = ").append(501 + 2 * t).append("; ");
        text.append((char) ('b' + 2 * t)).append(" = - ").append(502 + 2 * t).append("; ");
        return text + next + "} ";
    }

    private static String chain() {
        return CELLS + LOCKS + thread("A", "", 0, "start B; ") + thread("B", "later ", 1, "start C; ") + thread("C", "later ", 2, "start D; ")
            + thread("D", "later ", 3, "");
    }

    private static int cellOf(int c) {
        return c % 2 == 0 ? 501 + c : -501 - c;
    }

    private static void everyPlace() {
        House.sentence("8 cells, 4 locks, 4 threads, 6 LOCALS of one thread");
        for (int way = 0; way < 3; way++) {
            House house = House.of(chain());
            house.x.begin(way);
            for (int guard = 0; guard < 200 && house.x.ready(0) >= 0; guard++) {
                house.turns(house.x.ready(0));
            }
            for (int t = 0; t < 4; t++) {
                house.thread(t, 4, House.NONE, 0);
                House.due("buffer", house.x.thread(t, 3), 0);
                House.due("who has lock " + t, house.x.held(t, 0), t);
                House.due("how often", house.x.held(t, 1), t + 1);
                for (int n = 0; n < 6; n++) {
                    House.due("local " + n + " of " + t, house.x.local(t, n), 100 * (t + 1) + n);
                }
            }
            for (int c = 0; c < 8; c++) {
                House.due("cell " + c, house.x.cell(c), cellOf(c));
            }
        }
    }

    private static void everyPlaceInAnEnd() {
        House.sentence("The OUTCOME of an end: its sort, the memory, all LOCALS. (of the largest program)");
        House house = House.of(chain());
        for (int way = 0; way < 3; way++) {
            House.due("explored", house.x.explore(way, false) > 0 ? 1 : 0, 1);
            House.due("outcomes", house.x.explored(3), 1);
            for (int c = 0; c < 8; c++) {
                House.due("cell " + c, house.x.outcomeCell(0, c), cellOf(c));
            }
            for (int t = 0; t < 4; t++) {
                for (int n = 0; n < 6; n++) {
                    House.due("local " + n + " of " + t, house.x.outcomeLocal(0, t, n), 100 * (t + 1) + n);
                }
            }
            house.law("may held i == 0 & held j == 1 & held k == 2 & held l == 3 & ended A & ended B & ended C & ended D & D.u == 405 & h == - 508",
                1, house.x.outcome(0, 1));
            house.law("always A.p == 0 | A.p == 100 & D.u == 0 | D.u == 405", 1, House.NONE);
        }
    }

    private static void fullBuffers() {
        House.sentence("each thread has a BUFFER of at most 3 writes (each of four)");
        StringBuilder program = new StringBuilder(CELLS + LOCKS);
        for (int t = 0; t < 4; t++) {
            program.append("thread ").append((char) ('A' + t)).append(" { p = q + r; s = t; u = ").append(700 + t).append("; lock ").append((char) ('i' + t)).append("; ");
            for (int n = 0; n < 3; n++) {
                program.append((char) ('a' + (2 * t + n) % 8)).append(" = - ").append(10 * (t + 1) + n).append("; ");
            }
            program.append("fence; } ");
        }
        House house = House.of(program.toString());
        house.x.begin(1);
        for (int i = 0; i < 7; i++) {
            house.turns(0, 10, 20, 30);
        }
        house.readySteps(9, 19, 29, 39);
        for (int t = 0; t < 4; t++) {
            House.due("buffer", house.x.thread(t, 3), 3);
            House.due("who", house.x.held(t, 0), t);
            House.due("u", house.x.local(t, 5), 700 + t);
        }
        for (int c = 0; c < 8; c++) {
            House.due("cell " + c, house.x.cell(c), c + 1);
        }
        for (int n = 0; n < 3; n++) {
            for (int t = 3; t >= 0; t--) {
                house.turns(10 * t + 9);
                House.due("cell", house.x.cell((2 * t + n) % 8), -10 * (t + 1) - n);
                House.due("buffer", house.x.thread(t, 3), 2 - n);
            }
        }
        house.readySteps(0, 10, 20, 30);
    }

    private static void thirtySixSteps() {
        House.sentence("how many STEPS are READY (four threads, each at a LOAD of nine writes)");
        House house = House.of("cell x; cell y; thread A { " + House.times(8, "x = 1; ") + "r = y; } thread B { " + House.times(8, "y = 1; ")
            + "r = x; } thread C { r = x; } thread D { r = y; }");
        house.begin(2, 0, 0, 0, 0, 0, 0, 0, 0, 10, 10, 10, 10, 10, 10, 10);
        House.due("turn", house.x.turn(1, 0), 36);
        for (int i = 0; i < 36; i++) {
            House.due("ready(" + i + ")", house.x.ready(i), i / 9 * 10 + i % 9);
        }
        House.due("ready(36)", house.x.ready(36), House.NONE);
        House.due("turn(3, 8)", house.x.turn(3, 8), 27);
    }

    /** A adds eight times to each cell; B asks each of them as it comes to know it. */
    private static void everyWrite() {
        House.sentence("each cell has a row of WRITES (9 in all at most), each with a value and a VIEW (of eight cells)");
        StringBuilder program = new StringBuilder(CELLS + LOCKS + "thread A { lock i; ");
        for (int c = 0; c < 8; c++) {
            for (int n = 0; n < 8; n++) {
                program.append("add ").append((char) ('a' + c)).append(", 10");
                program.append(c < 6 && n == 7 ? " into " + (char) ('p' + c) : "").append("; ");
            }
        }
        program.append("} thread B { lock j; ");
        for (int c = 0; c < 8; c++) {
            char cell = (char) ('a' + c), local = (char) ('p' + c % 6);
            program.append(local).append(" = ").append(cell).append("; cas ").append(cell).append(", 500, 1; ").append(local).append(" = ").append(cell).append("; ");
        }
        program.append("} thread C { p = q + r; s = t; u = 77; lock k; } thread D { p = q + r; s = t; u = 78; lock l; }");
        House house = House.of(program.toString());
        house.begin(2, 20, 20, 20, 20, 30, 30, 30, 30, 10);
        house.turns(new int[65]);
        for (int c = 0; c < 8; c++) {
            for (int n = 0; n < 9; n++) {
                House.due("write " + n + " of " + c, house.x.seen(1, n), c + 1 + 10 * n);
            }
            House.due("none behind", house.x.seen(1, 9), House.NO_VALUE);
            house.turns(10, 10);
            House.due("the last write of " + c, house.x.seen(1, 0), c + 81);
            House.due("none behind", house.x.seen(1, 1), House.NO_VALUE);
            house.turns(10);
            House.due("memory", house.x.cell(c), c + 81);
        }
        for (int t = 0; t < 4; t++) {
            House.due("who", house.x.held(t, 0), t);
            House.due("how often", house.x.held(t, 1), 1);
            house.thread(t, 4, House.NONE, 0);
        }
        int[] ofA = {71, 72, 73, 74, 75, 76};
        int[] ofB = {87, 88, 83, 84, 85, 86};
        for (int n = 0; n < 6; n++) {
            House.due("local of A", house.x.local(0, n), ofA[n]);
            House.due("local of B", house.x.local(1, n), ofB[n]);
            House.due("local of C", house.x.local(2, n), n == 5 ? 77 : 0);
            House.due("local of D", house.x.local(3, n), n == 5 ? 78 : 0);
        }
    }

    private static void viewsOfTheLastWriteAlone() {
        House.sentence("the write's VIEW is the thread's (as it was then, not as it is later)");
        House house = House.of(CELLS + "thread A { " + House.times(8, "add h, 1; ") + "cas g, 500, 1; } thread B { cas h, 500, 1; r = g; cas g, 500, 1; r = g; }"
            + " thread C { " + House.times(8, "g = 9; ") + "add g, 1; } thread D { " + House.times(7, "g = 9; ") + "cas g, 9, 10; }");
        house.begin(2, 0, 0, 0, 0, 0, 0, 0, 0, 30, 30, 30, 30, 30, 30, 30, 30, 0, 10);
        for (int n = 0; n < 9; n++) {
            House.due("write " + n + " of g", house.x.seen(1, n), n == 0 ? 7 : n == 8 ? 10 : 9);
        }
        house.turns(10, 10);
        House.due("the last write of g", house.x.seen(1, 0), 10);
        House.due("none behind", house.x.seen(1, 1), House.NO_VALUE);
    }

    private static void viewsOfFirstValues() {
        House.sentence("each cell has a row of WRITES, 0 (the first value), .. each with a VIEW (at first 0 everywhere)");
        // 273 and 999 have bits in places of many cells
        int[] values = {273, 999, -1, 15, 546};
        for (int value : values) {
            String stored = value < 0 ? "- " + -value : "" + value;
            House house = House.of(CELLS + "thread A { b = 9; c = 9; " + House.times(8, "h = " + stored + "; ") + "} thread B { cas a, 500, 1; r = b; r = c; r = a; }");
            house.begin(2, 0, 0, 0, 0, 0, 0, 0, 0, 0, 0, 10);
            house.readySteps(10, 11);
            house.turns(10);
            house.readySteps(10, 11);
            house.turns(10);
            house.readySteps(10);
        }
    }

    private static void joinOfEightCells() {
        House.sentence("A JOIN of two VIEWS is the greater one for each cell.");
        for (int c = 0; c < 8; c++) {
            char cell = (char) ('a' + c);
            for (int many = 1; many < 9; many++) {
                String stores = House.times(many, cell + " = 9; ");
                House house = House.of(CELLS + "lock l; thread A { " + stores + "lock l; unlock l; } thread B { lock l; r = " + cell + "; } thread C { fence; r = " + cell + "; }");
                house.begin(2, new int[many + 2]);
                house.turns(10, 20);
                House.due("the last write of " + cell, house.x.seen(1, 0), 9);
                House.due("none behind", house.x.seen(1, 1), House.NO_VALUE);
                House.due("not joined", house.x.seen(2, many), 9);
                House.due("first", house.x.seen(2, 0), c + 1);
            }
        }
        // each view has the greater one of some cell
        House both = House.of(CELLS + "lock l; thread A { a = 9; a = 9; c = 9; c = 9; g = 9; lock l; unlock l; } thread B { b = 9; b = 9; h = 9; lock l; r = a; r = b; r = c; r = g; r = h; }");
        both.begin(2, 0, 0, 0, 0, 0, 0, 0, 10, 10, 10, 10);
        for (int i = 0; i < 5; i++) {
            both.readySteps(10);
            both.turns(10);
        }
    }

    private static void choicesOfEveryCell() {
        House.sentence("CHOICE k: it tells the write that is k behind the thread's VIEW of the cell, which is the VIEW's then.");
        StringBuilder program = new StringBuilder(CELLS + "thread A { ");
        for (int c = 0; c < 8; c++) {
            for (int n = 1; n < 9; n++) {
                program.append((char) ('a' + c)).append(" = ").append(100 * c + n).append("; ");
            }
        }
        program.append("} thread B { ");
        for (int c = 0; c < 8; c++) {
            program.append(House.times(2, "r = " + (char) ('a' + c) + "; "));
        }
        program.append("} thread C { ");
        for (int c = 7; c >= 0; c--) {
            program.append(House.times(2, "r = " + (char) ('a' + c) + "; "));
        }
        int[][] jumps = {{4, 4}, {1, 7}, {7, 1}, {8, 0}, {3, 1}, {5, 3}, {0, 8}, {6, 2}};
        for (int[] jump : jumps) {
            House house = House.of(program + "}");
            house.begin(2, new int[64]);
            for (int i = 0; i < 16; i++) {
                for (int t = 1; t < 3; t++) {
                    int c = t == 1 ? i / 2 : 7 - i / 2;
                    int at = i % 2 == 0 ? 0 : jump[0];
                    int to = at + jump[i % 2];
                    House.due("the last choice", house.x.turn(t, 9 - at), House.NONE);
                    house.turns(10 * t + to - at);
                    House.due("write " + to + " of " + c, house.x.local(t, 0), to == 0 ? c + 1 : 100 * c + to);
                }
            }
        }
    }

    private static void locksAndFenceApart() {
        House.sentence("each thread, each lock, and the FENCE have a VIEW (at first 0 everywhere).");
        String[] names = {"i", "j", "k", "l"};
        for (int one = 0; one < 4; one++) {
            String by = "lock " + names[one] + "; unlock " + names[one] + "; ";
            String fence = LOCKS + "cell x; thread A { x = 1; " + by + "} thread B { fence; r = x; } thread C { r = x; } thread D { ";
            for (int other = 0; other < 4; other++) {
                House house = House.of(fence + "lock " + names[other] + "; r = x; }");
                house.begin(2, 0, 0, 0, 10, 30);
                if (one == other) {
                    house.readySteps(10, 11, 20, 21, 30);
                } else {
                    house.readySteps(10, 11, 20, 21, 30, 31);
                }
            }
            House told = House.of(LOCKS + "cell x; thread A { x = 1; fence; } thread B { lock " + names[one] + "; r = x; } thread C { r = x; } thread D { fence; r = x; }");
            told.begin(2, 0, 0, 10, 30);
            told.readySteps(10, 11, 20, 21, 30);
        }
        // each thread has its own view
        for (int t = 0; t < 4; t++) {
            StringBuilder program = new StringBuilder("cell x; ");
            for (int other = 0; other < 4; other++) {
                program.append("thread T").append(other).append(other == t ? " { x = 1; r = x; } " : " { r = x; } ");
            }
            House house = House.of(program.toString());
            house.begin(2, 10 * t);
            for (int other = 0; other < 4; other++) {
                House.due("first of thread " + other, house.x.seen(other, 0), other == t ? 1 : 0);
                House.due("second of thread " + other, house.x.seen(other, 1), other == t ? House.NO_VALUE : 1);
            }
        }
    }

    private static void noneBehindTheLast() {
        House.sentence("BAD (- 1,000, NONE): none such. (behind the last of as many as there may be)");
        House house = House.of(chain());
        for (int way = 0; way < 3; way++) {
            house.x.begin(way);
            house.x.explore(way, false);
            House.due("cell(8)", house.x.cell(8), House.NO_VALUE);
            House.due("guard(8)", house.x.guard(8), House.BAD);
            House.due("guard(7)", house.x.guard(7), 8);
            House.due("outcomeCell(0, 8)", house.x.outcomeCell(0, 8), House.NO_VALUE);
            House.due("outcomeCell(0, 7)", house.x.outcomeCell(0, 7), -508);
            for (int what = 0; what < 4; what++) {
                House.due("thread(4, " + what + ")", house.x.thread(4, what), House.BAD);
                House.due("held(4, " + what + ")", house.x.held(4, what), House.BAD);
                House.due("order(4, " + what + ")", house.x.order(4, what), House.BAD);
                House.due("order(" + what + ", 4)", house.x.order(what, 4), House.BAD);
                House.due("local(" + what + ", 6)", house.x.local(what, 6), House.NO_VALUE);
                House.due("outcomeLocal(0, " + what + ", 6)", house.x.outcomeLocal(0, what, 6), House.NO_VALUE);
            }
            for (int n = 0; n < 7; n++) {
                House.due("local(4, " + n + ")", house.x.local(4, n), House.NO_VALUE);
                House.due("outcomeLocal(0, 4, " + n + ")", house.x.outcomeLocal(0, 4, n), House.NO_VALUE);
                House.due("seen(4, " + n + ")", house.x.seen(4, n), House.NO_VALUE);
                House.due("turn(4, " + n + ")", house.x.turn(4, n), House.NONE);
            }
            House.due("turn(4, 9)", house.x.turn(4, 9), House.NONE);
        }
    }

    private static void hundredLines() {
        House.sentence("100 statements, 400 NODES");
        String exp = "1" + House.times(199, "+1");
        House house = House.of("cell x = 6; thread A { " + House.times(95, "fence; ") + "p = x; q = x; r = " + exp + "; s = 0; halt; }");
        House.due("lines", house.x.count(6), 100);
        House.due("kind of the last line", house.x.line(99, 0), 13);
        House.due("line(100, 0)", house.x.line(100, 0), House.BAD);
        House.due("rewrite(1, 100)", house.x.rewrite(1, 100), House.BAD);
        // a setting that stands in a load's stead leaves the 400 nodes as they are
        House full = House.of("cell x = 6; thread A { " + House.times(94, "fence; ") + "p = x; q = x; r = " + exp + "; s = x; t = x; halt; }");
        House.due("nodes", full.x.count(7), 399);
        House.due("rewrite(2, 95)", full.x.rewrite(2, 95), 1);
        House.due("rewrite(2, 98)", full.x.rewrite(2, 98), 1);
        House.due("sound", full.x.sound(0), 1);
        int[] due = {6, 6, 200, 6, 6};
        for (int n = 0; n < 5; n++) {
            House.due("local " + n, full.x.outcomeLocal(0, 0, n), due[n]);
        }
        House.due("explore", full.x.explore(0, false), 101);
        for (int n = 0; n < 5; n++) {
            House.due("local " + n, full.x.outcomeLocal(0, 0, n), due[n]);
        }
        // by the first lines, too
        House first = House.of("cell x = 6; thread A { p = x; q = x; r = " + exp + "; q = x; q = x; s = 1; }");
        House.due("nodes", first.x.count(7), 400);
        House.due("rewrite(2, 1)", first.x.rewrite(2, 1), 1);
        House.due("rewrite(2, 4)", first.x.rewrite(2, 4), 1);
        House.due("sound", first.x.sound(1), 1);
        House.due("r", first.x.outcomeLocal(0, 0, 2), 200);
        House.due("s", first.x.outcomeLocal(0, 0, 3), 1);
        House.due("explore", first.x.explore(0, false), 7);
        House.due("r", first.x.outcomeLocal(0, 0, 2), 200);
    }

    private static String stores(String cell, int many) {
        StringBuilder text = new StringBuilder();
        for (int i = 1; i <= many; i++) {
            text.append(cell).append(" = ").append(i).append("; ");
        }
        return text.toString();
    }

    private static void outcomesOfTheLargest() {
        House.sentence("the program more than 4,000 OUTCOMES (of eight cells and 24 LOCALS)");
        String locals = "p = q + r; s = t; u = 1; ";
        House house = House.of("cell a; cell b; cell c; cell d; cell e; cell f; cell g; cell h = - 999; " + LOCKS + "thread A { assert 1; " + locals
            + stores("a", 3) + stores("b", 4) + stores("c", 4) + stores("d", 4) + stores("e", 7) + "f = 1; } thread B { r = f; while r == 0 { r = f; } s = a; t = b; u = c; v = d; w = e; } thread C later { " + locals + "} thread D later { " + locals + "}");
        House.due("states", house.x.explore(2, false) > 4000 ? 1 : 0, 1);
        House.due("outcomes", house.x.explored(3), 4000);
        House.due("rewrite", house.x.rewrite(1, 0), 1);
        House.due("sound", house.x.sound(2), 1);
        House.due("outcomes", house.x.explored(3), 4000);
        House.due("h", house.x.outcomeCell(3999, 7), -999);
    }

    private static void switchesOfTheLargest() {
        House.sentence("2 the fewest SWITCHES of a row of STEPS to an end with it (of 20,000 STATES)");
        String nine = House.times(9, "fence; ");
        House house = House.of("thread A { " + nine + "} thread B { " + nine + "} thread C { " + nine + "} thread D { " + nine + nine + "fence; }");
        House.due("explore", house.x.explore(0, false), 20000);
        House.due("switches", house.x.outcome(0, 2), 0);
        // each thread stands at a lock in turn: to come there takes switches
        House locks = House.of("cell x; thread A { " + House.times(6, "add x, 1; ") + "} thread B { " + House.times(6, "add x, 1; ") + "} thread C { "
            + House.times(6, "add x, 1; ") + "} thread D { join A; join B; join C; r = x; }");
        House.due("explore", locks.x.explore(0, false), 343 + 49 + 7 + 1 + 1);
        House.due("switches", locks.x.outcome(0, 2), 0);
    }
}
