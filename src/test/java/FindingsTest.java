/** Promises 28 to 31: races, guards, rings of locks, lost wakes, orders. */
public final class FindingsTest {
    public static void main(String[] args) {
        arguments();
        races();
        raceOrder();
        racesByWay();
        guards();
        rings();
        woken();
        lost();
        orders();
        crossed();
        House.finish();
    }

    private static void arguments() {
        House house = House.of("cell x; lock l; thread A { x = 1; } thread B { x = 2; }");
        TurnHouse x = house.x;
        House.due("race", x.race(-1, 0), House.BAD);
        house.x.explore(0, false);
        for (int what = 0; what < 3; what++) {
            House.due("race(-1, " + what + ")", x.race(-1, what), 1);
            House.due("race(1, " + what + ")", x.race(1, what), House.BAD);
            House.due("race(-2, " + what + ")", x.race(-2, what), House.BAD);
        }
        House.due("race(-1, 3)", x.race(-1, 3), House.BAD);
        House.due("race(0, 3)", x.race(0, 3), House.BAD);
        House.due("race(0, -1)", x.race(0, -1), House.BAD);
        House.due("guard(1)", x.guard(1), House.BAD);
        House.due("guard(-1)", x.guard(-1), House.BAD);
        House.due("ring(6)", x.ring(6), House.BAD);
        House.due("ring(-1)", x.ring(-1), House.BAD);
        House.due("order(0, 1)", x.order(0, 1), House.BAD);
        House.due("order(1, 0)", x.order(1, 0), House.BAD);
        House.due("order(-1, 0)", x.order(-1, 0), House.BAD);
        House.due("order(0, -1)", x.order(0, -1), House.BAD);
        House.due("order(0, 0)", x.order(0, 0), 0);
    }

    private static void race(String one, String other, int due) {
        House house = House.of("cell x; cell y; cell v volatile; thread A { " + one + "; } thread B { " + other + "; }");
        house.x.explore(0, false);
        House.due("races of " + one + " and " + other, house.x.race(-1, 0), due);
        if (due > 0) {
            House.due("lesser", house.x.race(0, 0), 0);
            House.due("greater", house.x.race(0, 1), 1);
            House.due("state", house.x.race(0, 2), 0);
        }
    }

    private static void races() {
        race("x = 1", "x = 1", 1);
        race("x = 1", "r = x", 1);
        race("r = x", "x = 1", 1);
        race("x = 1", "add x, 1", 1);
        race("cas x, 0, 1", "x = 1", 1);
        race("r = x", "cas x, 0, 1", 1);
        race("add x, 1", "r = x", 1);
        race("r = x", "s = x", 0);
        race("cas x, 0, 1", "add x, 1", 0);
        race("add x, 1", "add x, 1", 0);
        race("x = 1", "y = 1", 0);
        race("v = 1", "v = 1", 0);
        race("v = 1", "r = v", 0);
        race("x = 1", "fence", 0);
        // it counts that the line is next, also if it goes wrong then
        race("x = 999 + 1", "r = x", 1);
        // one that is seen in several states is one race
        House again = House.of("cell x; thread A { x = 1; } thread B { x = 2; } thread C { fence; }");
        again.x.explore(0, false);
        House.due("races", again.x.race(-1, 0), 1);
        House.due("state", again.x.race(0, 2), 0);
        House locked = House.of("cell x; lock l; thread A { lock l; x = 1; unlock l; } thread B { lock l; x = 2; unlock l; r = x; }");
        locked.x.explore(0, false);
        House.due("races", locked.x.race(-1, 0), 1);
        House.due("lesser", locked.x.race(0, 0), 1);
        House.due("greater", locked.x.race(0, 1), 6);
        House joined = House.of("cell x; thread A { x = 1; start B; } thread B later { x = 2; }");
        joined.x.explore(0, false);
        House.due("races", joined.x.race(-1, 0), 0);
    }

    private static void raceOrder() {
        House house = House.of("cell x; thread A { fence; x = 1; r = x; } thread B { r = x; x = 2; }");
        house.x.explore(0, false);
        int[][] due = {{1, 3, 1}, {1, 4, 4}, {2, 4, 7}};
        House.due("races", house.x.race(-1, 2), due.length);
        for (int k = 0; k < due.length; k++) {
            for (int what = 0; what < 3; what++) {
                House.due("race(" + k + ", " + what + ")", house.x.race(k, what), due[k][what]);
            }
        }
    }

    private static void racesByWay() {
        // the add is not ready while the buffer has a write
        House house = House.of("cell x; cell y; thread A { y = 1; add x, 1; } thread B { r = x; halt; }");
        house.x.explore(1, false);
        House.due("races", house.x.race(-1, 0), 1);
        House.due("state", house.x.race(0, 2), 3);
    }

    private static void guards() {
        House house = House.of("cell x; cell y; cell z; cell v volatile; lock k; lock l; thread A { lock k; lock l; x = 1; v = 1;"
            + " unlock l; r = y; unlock k; } thread B { lock l; add x, 1; r = v; y = 1; unlock l; }");
        house.x.explore(0, false);
        House.due("guard of x", house.x.guard(0), 2);
        House.due("guard of y", house.x.guard(1), 0);
        House.due("guard of z, that none touches", house.x.guard(2), 3);
        House.due("guard of v", house.x.guard(3), 2);
        House.due("races", house.x.race(-1, 0), 1);
    }

    private static void ring(House house, int... due) {
        for (int what = 0; what < due.length; what++) {
            House.due("ring(" + what + ")", house.x.ring(what), due[what]);
        }
    }

    private static void rings() {
        House house = House.of("lock l; lock m; lock n; thread A { join A; } thread B { lock l; lock m; } thread C { lock m; lock n; }"
            + " thread D { lock n; lock l; }");
        house.x.explore(0, false);
        // the ends are by those that got both; in one of them all three stand round
        ring(house, 1, house.x.ring(1), 1, 0, House.NONE, 1);
        house.law("may held l == 1 & held m == 2 & held n == 3", 1, house.x.ring(1));
        // a thread that stands at a lock of one that has ended is in no ring
        House alone = House.of("lock l; thread A { lock l; } thread B { lock l; }");
        alone.x.explore(0, false);
        ring(alone, 0, House.NONE, House.NONE, 0, House.NONE, 0);
        // the least thread in the ring, not the least that stands at one
        House outside = House.of("lock l; lock m; lock n; thread A { lock n; lock l; } thread B { lock l; lock m; } thread C { lock m; lock l; }");
        outside.x.explore(0, false);
        House.due("least", outside.x.ring(2), 1);
        House none = House.of("lock l; thread A { lock l; lock l; unlock l; unlock l; } thread B { lock l; unlock l; }");
        none.x.explore(1, false);
        ring(none, 0, House.NONE, House.NONE, 0, House.NONE, 0);
        // an end where another one went wrong has rings, too
        House wrong = House.of("lock l; lock m; thread A { lock l; lock m; } thread B { lock m; lock l; } thread C { assert 0; }");
        wrong.x.explore(0, false);
        House.due("rings", wrong.x.ring(0), 1);
        House.due("sort", wrong.x.outcome(0, 0), 2);
    }

    private static void woken() {
        House house = House.of("lock l; lock m; thread A { lock m; lock l; start B; wait l; } thread B later { lock l; wake l; lock m; }");
        house.x.explore(0, false);
        int state = house.x.ring(1);
        House.due("rings", house.x.ring(0), 1);
        House.due("least", house.x.ring(2), 0);
        house.x.replay(state);
        house.thread(0, 3, 3, 0);
        house.thread(1, 1, 6, 0);
        // B never comes to have m
        House.due("order of l, m", house.x.order(0, 1), 0);
        House.due("order of m, l", house.x.order(1, 0), 1);
    }

    private static void lost() {
        House house = House.of("lock l; thread A { lock l; wait l; unlock l; } thread B { lock l; wake l; unlock l; }");
        house.x.explore(0, false);
        House.due("rings", house.x.ring(0), 0);
        House.due("lost", house.x.ring(3), 1);
        house.x.replay(house.x.ring(4));
        house.thread(0, 2, 1, 0);
        house.thread(1, 4, House.NONE, 0);
        House many = House.of("cell x; lock l; thread A { x = 1; lock l; wait l; } thread B { r = x; }");
        many.x.explore(0, false);
        House.due("lost", many.x.ring(3), 2);
        House.due("least", many.x.ring(4), many.x.outcome(0, 1));
    }

    private static void orders() {
        House house = House.of("lock k; lock l; lock m; thread A { lock k; lock l; lock k; unlock l; lock m; }");
        house.x.explore(0, false);
        int[][] due = {{0, 1, 1}, {0, 0, 0}, {0, 0, 0}};
        for (int a = 0; a < 3; a++) {
            for (int b = 0; b < 3; b++) {
                House.due("order(" + a + ", " + b + ")", house.x.order(a, b), due[a][b]);
            }
        }
        House.due("crossed", house.x.ring(5), 0);
        // only locks have orders, whatever number a cell or a thread has
        House others = House.of("cell x; lock k; lock l; thread A { lock l; x = 1; r = x; add x, 1; start B; join B; wake l; unlock l; }"
            + " thread B later { }");
        others.x.explore(0, false);
        House.due("order(1, 0)", others.x.order(1, 0), 0);
        House.due("order(1, 1)", others.x.order(1, 1), 0);
        // a lock that is never had has no order
        House never = House.of("lock k; lock l; thread A { lock l; } thread B { join A; lock k; lock l; }");
        never.x.explore(0, false);
        House.due("order(0, 1)", never.x.order(0, 1), 0);
        House taking = House.of("lock k; lock l; thread A { lock l; lock k; wait l; } thread B { lock l; wake l; unlock l; }");
        taking.x.explore(0, false);
        House.due("order(0, 1)", taking.x.order(0, 1), 1);
        House.due("order(1, 0)", taking.x.order(1, 0), 1);
    }

    private static void crossed() {
        House three = House.of("lock k; lock l; lock m; thread A { lock k; lock l; unlock l; unlock k; lock l; lock m; unlock m; unlock l;"
            + " lock m; lock k; }");
        three.x.explore(0, false);
        House.due("crossed", three.x.ring(5), 1);
        House.due("order(0, 2)", three.x.order(0, 2), 0);
        House line = House.of("lock k; lock l; lock m; thread A { lock m; lock l; }");
        line.x.explore(0, false);
        House.due("order(2, 1)", line.x.order(2, 1), 1);
        // nothing is left of what was found before
        line.read("lock k; lock l; lock m; thread A { lock k; lock l; lock m; }");
        line.x.explore(0, false);
        House.due("crossed", line.x.ring(5), 0);
        House.due("order(0, 2)", line.x.order(0, 2), 1);
        House.due("order(2, 1)", line.x.order(2, 1), 0);
    }
}
