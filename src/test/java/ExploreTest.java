/** Promises 20 to 27: all turns, outcomes, schedules, chances. */
public final class ExploreTest {
    public static void main(String[] args) {
        arguments();
        numbersOfStates();
        fewerTurns();
        fewerBehindWhile();
        limits();
        viewLimit();
        outcomes();
        sorts();
        switches();
        schedules();
        replays();
        chances();
        House.finish();
    }

    private static void arguments() {
        House house = House.of("cell x; thread A { x = 1; r = x; }");
        TurnHouse x = house.x;
        House.due("explored", x.explored(0), House.BAD);
        House.due("explore(3, false)", x.explore(3, false), House.BAD);
        House.due("explore(-1, true)", x.explore(-1, true), House.BAD);
        House.due("explore(1, true)", x.explore(1, true), 5);
        House.due("explore(3, false)", x.explore(3, false), House.BAD);
        int[] due = {5, 5, 1, 1, 1, 1};
        for (int what = 0; what < due.length; what++) {
            House.due("explored(" + what + ")", x.explored(what), due[what]);
        }
        House.due("explored(6)", x.explored(6), House.BAD);
        House.due("explored(-1)", x.explored(-1), House.BAD);
        House.due("explore(2, false)", x.explore(2, false), 3);
        House.due("way", x.explored(4), 2);
        House.due("fewer", x.explored(5), 0);
        for (int i = -1; i < 2; i += 2) {
            House.due("schedule", x.schedule(i == 1 ? 3 : i, -1), House.BAD);
            House.due("replay", x.replay(i == 1 ? 3 : i), House.BAD);
            House.due("outcome", x.outcome(i, 0), House.BAD);
            House.due("outcomeCell", x.outcomeCell(i, 0), House.NO_VALUE);
            House.due("outcomeLocal", x.outcomeLocal(i, 0, 0), House.NO_VALUE);
            House.due("outcomeCell", x.outcomeCell(0, i), House.NO_VALUE);
            House.due("outcomeLocal", x.outcomeLocal(0, i, 0), House.NO_VALUE);
            House.due("outcomeLocal", x.outcomeLocal(0, 0, i), House.NO_VALUE);
        }
        House.due("outcome(0, 3)", x.outcome(0, 3), House.BAD);
        House.due("outcome(0, -1)", x.outcome(0, -1), House.BAD);
        House.due("schedule(2, -2)", x.schedule(2, -2), House.BAD);
        House.due("schedule(2, 2)", x.schedule(2, 2), House.BAD);
        House.due("chances of another way", x.chances(0, 1, 1), House.BAD);
    }

    private static void numbersOfStates() {
        // states 1, 2 are found from 0, by A and by B; 3, 4 from 1; 4, 5 from 2; and so on
        House house = House.of("thread A { p = 1; p = 2; } thread B { q = 1; q = 2; }");
        House.due("explore", house.x.explore(0, false), 9);
        House.due("steps", house.x.explored(1), 12);
        int[][] schedules = {{}, {0}, {10}, {0, 0}, {0, 10}, {10, 10}, {0, 0, 10}, {0, 10, 10}, {0, 0, 10, 10}};
        for (int s = 0; s < schedules.length; s++) {
            House.due("length of " + s, house.x.schedule(s, -1), schedules[s].length);
            for (int i = 0; i < schedules[s].length; i++) {
                House.due("schedule(" + s + ", " + i + ")", house.x.schedule(s, i), schedules[s][i]);
            }
        }
        // choices come one by one, the flush last
        House views = House.of("cell x; thread A { x = 1; } thread B { r = x; }");
        House.due("views", views.x.explore(2, false), 5);
        House.due("schedule(3, 1)", views.x.schedule(3, 1), 10);
        House.due("schedule(4, 1)", views.x.schedule(4, 1), 11);
        House buffers = House.of("cell x; thread A { x = 1; r = 1; }");
        House.due("buffers", buffers.x.explore(1, false), 5);
        House.due("schedule(2, 1)", buffers.x.schedule(2, 1), 0);
        House.due("schedule(3, 1)", buffers.x.schedule(3, 1), 9);
    }

    private static void fewerTurns() {
        House house = House.of("thread A { p = 1; p = 2; } thread B { q = 1; q = 2; }");
        House.due("fewer", house.x.explore(0, true), 5);
        House.due("steps", house.x.explored(1), 4);
        House.due("schedule(4, 2)", house.x.schedule(4, 2), 10);
        String[] quiet = {"r = 1", "assert 1", "assert 0", "call w", "reply", "halt"};
        for (String statement : quiet) {
            House one = House.of("cell x; thread A { x = 1; x = 2; } thread B { " + statement + "; }");
            House.due("all turns with " + statement, one.x.explore(0, false), 6);
            House.due("fewer turns with " + statement, one.x.explore(0, true), 4);
        }
        House branch = House.of("cell x; thread A { x = 1; x = 2; } thread B { if 1 { } }");
        House.due("fewer turns with if", branch.x.explore(0, true), 4);
        String[] loud = {"r = x;", "x = 1;", "cas x, 1, 1;", "add x, 0;", "lock l;", "unlock l;", "wait l;", "wake l;",
            "wakeall l;", "start C;", "join A;", "fence;", "while 0 { }"};
        for (String statement : loud) {
            House one = House.of("cell x; lock l; thread A { fence; fence; } thread B { " + statement + " } thread C later { }");
            House.due("fewer turns with " + statement, one.x.explore(0, true), one.x.explore(0, false));
        }
        // the flush of the thread itself is not tried either
        House buffers = House.of("cell x; thread A { x = 1; r = 1; r = 2; }");
        House.due("all turns", buffers.x.explore(1, false), 7);
        House.due("fewer turns", buffers.x.explore(1, true), 5);
    }

    private static void fewerBehindWhile() {
        // A comes to its setting by a while: B is tried there, too
        House house = House.of("cell x; thread A { while 1 { r = 1; } } thread B { x = 1; }");
        House.due("fewer", house.x.explore(0, true), 8);
        House.due("steps", house.x.explored(1), 12);
        // a state comes by B's while, which went wrong: C is tried there, though A stands at its setting
        House wrong = House.of("thread A { while 1 { r = 1; } } thread B { while 999 + 1 { } } thread C { fence; }");
        House.due("fewer", wrong.x.explore(0, true), 16);
        House.due("steps", wrong.x.explored(1), 30);
        House.due("schedule(11, 2)", wrong.x.schedule(11, 2), 20);
    }

    /** As much as a program may have, and four threads with so many lines that no other thread can see. */
    private static String largest(int a, int b, int c, int d) {
        return "cell s volatile; cell t = 1; cell u; cell v; cell w; cell x; cell y; cell z = - 999; lock i; lock j; lock k; lock l;"
            + " thread A { " + lines(a) + "} thread B { " + lines(b) + "} thread C { " + lines(c) + "} thread D { " + lines(d) + "}";
    }

    private static String lines(int many) {
        return "a = b + c; d = e; f = 0;" + House.times(many - 3, "fence;");
    }

    private static void limits() {
        // ten, ten, ten and twenty places: 20,000 states
        House house = House.of(largest(9, 9, 9, 19));
        House.due("explore", house.x.explore(0, false), 20000);
        House.due("ends", house.x.explored(2), 1);
        House.due("steps", house.x.explored(1), 73000);
        House.due("last schedule", house.x.schedule(19999, -1), 46);
        House.due("z", house.x.outcomeCell(0, 7), -999);
        house.law("fair must ended A & ended D", 1, House.NONE);
        house.law("never ended A & ended B & ended C & ended D", 0, 19999);
        House.due("buffers", house.x.explore(1, false), 20000);
        House.due("t", house.x.outcomeCell(0, 1), 1);
        House.due("views", house.x.explore(2, false), House.FULL);
        House.due("explored", house.x.explored(0), House.BAD);
        House.due("outcome", house.x.outcome(0, 0), House.BAD);
        House.due("replay", house.x.replay(0), House.BAD);
        House over = House.of(largest(9, 9, 9, 20));
        House.due("explore", over.x.explore(0, false), House.FULL);
        House.due("explored", over.x.explored(0), House.BAD);
        String nine = House.times(9, "r = 1;");
        House quiet = House.of("thread A { " + nine + "} thread B { " + nine + "} thread C { " + nine + "} thread D { " + nine + nine + "}");
        House.due("fewer", quiet.x.explore(0, true), 1 + 9 + 9 + 9 + 18);
    }

    private static void viewLimit() {
        House house = House.of(largest(9, 9, 9, 5));
        House.due("views", house.x.explore(2, false), 6000);
        House.due("z", house.x.outcomeCell(0, 7), -999);
        House.due("views", House.of(largest(9, 9, 9, 6)).x.explore(2, false), House.FULL);
    }

    private static void outcomes() {
        House house = House.of("cell x = 3; cell y; thread A { x = 1; p = x; } thread B { x = 2; }");
        House.due("explore", house.x.explore(0, false), 9);
        House.due("outcomes", house.x.explored(3), 3);
        // p and x behind each order: A's store and load, then B; A, B, A; B, A
        int[][] due = {{1, 2}, {2, 2}, {1, 1}};
        for (int i = 0; i < 3; i++) {
            House.due("sort", house.x.outcome(i, 0), 0);
            House.due("p", house.x.outcomeLocal(i, 0, 0), due[i][0]);
            House.due("x", house.x.outcomeCell(i, 0), due[i][1]);
            House.due("y", house.x.outcomeCell(i, 1), 0);
            House.due("state", house.x.outcome(i, 1), 6 + i);
        }
        // two ends with one outcome: the sort, the memory, the locals are alike
        House alike = House.of("cell x; lock l; thread A { lock l; } thread B { lock l; }");
        House.due("explore", alike.x.explore(0, false), 3);
        House.due("ends", alike.x.explored(2), 2);
        House.due("outcomes", alike.x.explored(3), 1);
        House.due("state", alike.x.outcome(0, 1), 1);
        // the memory of views is each cell's last write
        House views = House.of("cell x; thread A { x = 1; x = 2; }");
        views.x.explore(2, false);
        House.due("x", views.x.outcomeCell(0, 0), 2);
    }

    private static void sorts() {
        sort("thread A { r = 1; }", 0);
        sort("thread A { halt; } thread B later { r = 1; }", 0);
        sort("lock l; thread A { lock l; wait l; }", 1);
        sort("thread A { join A; }", 1);
        sort("thread A { assert 0; }", 2);
        sort("thread A { assert 0; } thread B { join A; }", 2);
        sort("thread A later { assert 0; }", 0);
    }

    private static void sort(String program, int due) {
        House house = House.of(program);
        for (int way = 0; way < 3; way++) {
            house.x.explore(way, false);
            House.due("sort of " + program, house.x.outcome(0, 0), due);
        }
    }

    private static void switches() {
        House house = House.of("cell x; cell y; thread A { x = 1; p = y; } thread B { y = 1; q = x; }");
        house.x.explore(0, false);
        // A first, both stores first, B first
        House.due("p behind A", house.x.outcomeLocal(0, 0, 0), 0);
        House.due("switches", house.x.outcome(0, 2), 0);
        House.due("p, q of both", house.x.outcomeLocal(1, 0, 0) + house.x.outcomeLocal(1, 1, 0), 2);
        House.due("switches", house.x.outcome(1, 2), 1);
        House.due("switches", house.x.outcome(2, 2), 0);
        // to leave a thread that has no ready step is no switch
        House waits = House.of("lock l; thread A { lock l; wait l; r = 1; } thread B { join C; lock l; wake l; unlock l; } thread C { }");
        waits.x.explore(0, false);
        for (int i = 0; i < waits.x.explored(3); i++) {
            House.due("switches", waits.x.outcome(i, 2), 0);
        }
        House thrice = House.of("cell x; thread A { add x, 1 into p; add x, 1 into p; add x, 1 into p; }"
            + " thread B { add x, 1 into q; add x, 1 into q; }");
        thrice.x.explore(0, false);
        House back = House.of("cell x; cell y; thread A { x = 1; x = 2; } thread B { p = x; p = x; y = p; }");
        back.x.explore(0, false);
        for (int i = 0; i < back.x.explored(3); i++) {
            int p = back.x.outcomeLocal(i, 1, 0);
            House.due("switches with p = " + p, back.x.outcome(i, 2), p == 1 ? 1 : 0);
        }
        int[] due = new int[5];
        for (int i = 0; i < thrice.x.explored(3); i++) {
            int p = thrice.x.outcomeLocal(i, 0, 0);
            int q = thrice.x.outcomeLocal(i, 1, 0);
            // the last of A is the last of all, or that of B is
            due[p == 4 ? q : 1] = thrice.x.outcome(i, 2);
            House.due("one is the last", Math.max(p, q), 4);
        }
        House.due("switches, B at the begin", due[1], 0);
        House.due("switches, B behind one", due[2], 1);
        House.due("switches, B behind two", due[3], 1);
    }

    private static void schedules() {
        House house = House.of("cell x; lock l; thread A { lock l; wait l; } thread B { lock l; wait l; } thread C { lock l; wake l; }");
        house.x.explore(0, false);
        boolean second = false;
        for (int s = 0; s < house.x.explored(0); s++) {
            int n = house.x.schedule(s, -1);
            second = second || n > 0 && house.x.schedule(s, n - 1) == 21;
        }
        House.due("a choice in a schedule", second ? 1 : 0, 1);
        House.due("schedule(0, -1)", house.x.schedule(0, -1), 0);
        House.due("schedule(0, 0)", house.x.schedule(0, 0), House.BAD);
    }

    private static void replays() {
        House house = House.of("cell x; thread A { x = 1; x = 2; } thread B { r = x; }");
        House.due("explore", house.x.explore(1, false) > 0 ? 1 : 0, 1);
        for (int s = 0; s < house.x.explored(0); s++) {
            int n = house.x.schedule(s, -1);
            int ready = house.x.replay(s);
            House.due("steps", house.x.step(-1, 0), n);
            for (int i = 0; i < n; i++) {
                House.due("step", house.x.step(i, 0) * 10 + house.x.step(i, 1), house.x.schedule(s, i));
            }
            House.due("none behind the last", house.x.ready(ready), House.NONE);
            House.due("one ahead of it", ready == 0 || house.x.ready(ready - 1) >= 0 ? 1 : 0, 1);
        }
        House.due("replay of an end", house.x.replay(house.x.outcome(0, 1)), 0);
        House.due("x", house.x.cell(0), house.x.outcomeCell(0, 0));
        House.due("r", house.x.local(1, 0), house.x.outcomeLocal(0, 1, 0));
        // 201 steps are too many for a run: the judgings of a while and the settings in it, by turns
        House many = House.of("thread A { while r < 101 { r = r + 1; } }");
        House.due("explore", many.x.explore(0, false), 204);
        House.due("replay(200)", many.x.replay(200), 1);
        House.due("turn", many.x.turn(0, 0), House.FULL);
        House.due("r", many.x.local(0, 0), 100);
        House.due("schedule(201, -1)", many.x.schedule(201, -1), 201);
        House.due("replay(201)", many.x.replay(201), House.FULL);
        House.due("the run is as it was", many.x.step(-1, 0), 200);
    }

    private static void chances() {
        House house = House.of("cell x; thread A { x = 1; x = 2; } thread B { r = x; }");
        house.x.explore(0, false);
        TurnHouse x = house.x;
        // r is 2, 1 or 0
        House.due("r", x.outcomeLocal(0, 1, 0), 2);
        House.due("r", x.outcomeLocal(1, 1, 0), 1);
        House.due("r", x.outcomeLocal(2, 1, 0), 0);
        int[] one = {1, 0, 1}, two = {1, 1, 2};
        for (int i = 0; i < 3; i++) {
            House.due("chances(" + i + ", 1, 1)", x.chances(i, 1, 1), one[i]);
            House.due("chances(" + i + ", 1, 12)", x.chances(i, 1, 12), one[i]);
            House.due("chances(" + i + ", 2, 2)", x.chances(i, 2, 2), two[i]);
        }
        int all = x.chances(0, 3, 12) + x.chances(1, 3, 12) + x.chances(2, 3, 12);
        House.due("all runs", all, 2 * 12 * 12);
        // A goes below behind its first step, and comes again at once if it goes below twice there
        House.due("chances(1, 3, 1)", x.chances(1, 3, 1), 1);
        House.due("chances(1, 3, 2)", x.chances(1, 3, 2), 3);
        House.due("chances(3, 1, 1)", x.chances(3, 1, 1), House.BAD);
        House.due("chances(-1, 1, 1)", x.chances(-1, 1, 1), House.BAD);
        House.due("chances(0, 0, 1)", x.chances(0, 0, 1), House.BAD);
        House.due("chances(0, 4, 1)", x.chances(0, 4, 1), House.BAD);
        House.due("chances(0, 1, 0)", x.chances(0, 1, 0), House.BAD);
        House.due("chances(0, 1, 13)", x.chances(0, 1, 13), House.BAD);
        // threads that are not ready are passed over, also those that start later
        House later = House.of("thread A { start B; } thread B later { r = 1; } thread C { }");
        later.x.explore(0, false);
        House.due("chances", later.x.chances(0, 1, 1), 6);
        // of choices the least one is taken
        House wakes = House.of("lock l; thread A { lock l; wait l; p = 1; } thread B { lock l; wait l; q = 1; }"
            + " thread C { lock l; wake l; unlock l; }");
        wakes.x.explore(0, false);
        for (int i = 0; i < wakes.x.explored(3); i++) {
            boolean ofB = wakes.x.outcomeLocal(i, 0, 0) == 0 && wakes.x.outcomeLocal(i, 1, 0) == 1;
            boolean ofA = wakes.x.outcomeLocal(i, 0, 0) == 1 && wakes.x.outcomeLocal(i, 1, 0) == 0;
            // A ahead of C, be B where it will; B ahead of C, A behind it
            House.due("chances", wakes.x.chances(i, 1, 1), ofA ? 3 : ofB ? 1 : 2);
        }
        // 200 steps are an end, 201 are none
        House end = House.of("thread A { while r < 99 { r = r + 1; } r = 0; }");
        end.x.explore(0, false);
        House.due("200 steps", end.x.chances(0, 1, 1), 1);
        House none = House.of("thread A { while r < 99 { r = r + 1; } r = 0; r = 0; }");
        none.x.explore(0, false);
        House.due("201 steps", none.x.chances(0, 1, 1), 0);
    }
}
