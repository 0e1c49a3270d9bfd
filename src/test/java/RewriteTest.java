/** Promises 34 to 37: rewritten programs, held against the first ones. */
public final class RewriteTest {
    public static void main(String[] args) {
        arguments();
        places();
        leftOut();
        reused();
        blocks();
        soundness();
        byWay();
        sameCells();
        whatIsExplored();
        forgotten();
        full();
        manyOutcomes();
        gained();
        House.finish();
    }

    private static void rewrite(House house, int kind, int line, int due) {
        House.due("rewrite(" + kind + ", " + line + ")", house.x.rewrite(kind, line), due);
    }

    private static void arguments() {
        House none = new House();
        rewrite(none, 0, 0, House.BAD);
        House house = House.of("thread A { p = 1; q = 2; }");
        rewrite(house, 3, 0, House.BAD);
        rewrite(house, -1, 0, House.BAD);
        rewrite(house, 0, 2, House.BAD);
        rewrite(house, 0, -1, House.BAD);
        House.due("drop", house.x.drop(), 0);
        House.due("sound(0)", house.x.sound(0), House.NONE);
        House.due("sound(-1)", house.x.sound(-1), House.BAD);
        rewrite(house, 0, 1, 0);
        House.due("sound(0)", house.x.sound(0), House.NONE);
        House.due("drop", house.x.drop(), 0);
        rewrite(house, 0, 0, 1);
        House.due("sound(3)", house.x.sound(3), House.BAD);
        House.due("sound(0)", house.x.sound(0), 1);
        House.due("drop", house.x.drop(), 1);
        House.due("drop", house.x.drop(), 0);
    }

    /** The lines of the rewritten program's longest schedule, of one thread. */
    private static void lines(House house, int... due) {
        House.due("sound", house.x.sound(0) >= 0 ? 1 : 0, 1);
        int last = house.x.explored(0) - 1;
        house.x.replay(last);
        House.due("steps", house.x.step(-1, 0), due.length);
        for (int i = 0; i < due.length; i++) {
            House.due("line of step " + i, house.x.step(i, 2), due[i]);
        }
    }

    private static void places() {
        House house = House.of("thread A { p = 1; q = p; p = 2; }");
        rewrite(house, 0, 2, 0);
        rewrite(house, 0, 0, 1);
        lines(house, 1, 0, 2);
        House.due("q", house.x.local(0, 1), 0);
        rewrite(house, 0, 0, 1);
        lines(house, 1, 2, 0);
        rewrite(house, 0, 0, 0);
        rewrite(house, 0, 2, 1);
        lines(house, 1, 0, 2);
        rewrite(house, 0, 1, 1);
        lines(house, 0, 1, 2);
        House.due("sound again", house.x.sound(0), 1);
        House.due("begin goes by the program", house.x.begin(0), 1);
        house.turns(0);
        House.due("line", house.x.step(0, 2), 0);
    }

    private static void leftOut() {
        House house = House.of("thread A { p = 1; q = 2; r = 3; if p { halt; } while r { r = 0; } }");
        rewrite(house, 1, 3, 0);
        rewrite(house, 1, 5, 0);
        rewrite(house, 1, 1, 1);
        rewrite(house, 1, 1, House.BAD);
        rewrite(house, 0, 1, House.BAD);
        rewrite(house, 2, 1, House.BAD);
        lines(house, 0, 2, 3, 4);
        rewrite(house, 1, 0, 1);
        lines(house, 2, 3, 5, 6, 5);
        rewrite(house, 1, 4, 1);
        lines(house, 2, 3, 5, 6, 5);
        rewrite(house, 0, 2, 1);
        lines(house, 3, 2, 5, 6, 5);
        rewrite(house, 1, 2, 1);
        lines(house, 3, 5);
        House all = House.of("thread A { p = 1; } thread B { q = 1; q = 2; }");
        rewrite(all, 1, 0, 1);
        rewrite(all, 1, 2, 1);
        lines(all, 1);
        all.thread(0, 4, House.NONE, 0);
        rewrite(all, 1, 1, 1);
        lines(all);
        House two = House.of("thread A { p = 1; q = 2; }");
        rewrite(two, 1, 1, 1);
        lines(two, 0);
        two.x.drop();
        rewrite(two, 0, 0, 1);
        rewrite(two, 1, 1, 1);
        lines(two, 0);
        House inner = House.of("thread A { if 1 { p = 1; } q = 2; }");
        rewrite(inner, 1, 1, 1);
        lines(inner, 0, 2);
        House outer = House.of("thread A { if 0 { p = 1; } else { q = 2; } }");
        rewrite(outer, 1, 2, 1);
        lines(outer, 0);
        House loop = House.of("cell x; thread A { p = x; while p { p = 0; } if p { } else { q = 1; } }");
        rewrite(loop, 1, 2, 1);
        rewrite(loop, 1, 4, 1);
        lines(loop, 0, 1, 3);
    }

    private static void reused() {
        House house = House.of("cell x; cell y; thread A { p = x; q = x; r = y; s = y; t = 1; t = y; } thread B { x = 1; y = 1; }");
        rewrite(house, 2, 0, 0);
        rewrite(house, 2, 2, 0);
        rewrite(house, 2, 4, 0);
        rewrite(house, 2, 5, 0);
        rewrite(house, 2, 1, 1);
        // it is no load now
        rewrite(house, 2, 1, 0);
        House.due("sound", house.x.sound(0), 1);
        for (int i = 0; i < house.x.explored(3); i++) {
            House.due("q is p", house.x.outcomeLocal(i, 0, 1), house.x.outcomeLocal(i, 0, 0));
        }
        rewrite(house, 2, 3, 1);
        rewrite(house, 1, 4, 1);
        // the line ahead is a setting now
        rewrite(house, 2, 5, 0);
        House.due("sound", house.x.sound(0), 1);
        House.due("kind of the program's line", house.x.line(1, 0), 1);
        House next = House.of("cell x; thread A { p = x; q = 1; r = x; if q { s = x; } } thread B { x = 1; }");
        rewrite(next, 2, 2, 0);
        rewrite(next, 1, 1, 1);
        rewrite(next, 2, 4, 0);
        rewrite(next, 2, 2, 1);
        House.due("sound", next.x.sound(0), 0);
        House other = House.of("cell x; thread A { p = x; } thread B { q = x; }");
        rewrite(other, 2, 1, 0);
    }

    private static void blocks() {
        House house = House.of("thread A { if p { q = 1; } else { q = 2; r = 3; } s = 4; while s { s = 0; q = 5; } }");
        rewrite(house, 0, 1, 0);
        rewrite(house, 0, 3, 0);
        rewrite(house, 0, 7, 0);
        rewrite(house, 0, 5, 0);
        rewrite(house, 0, 2, 1);
        lines(house, 0, 3, 2, 4, 5, 6, 7, 5);
        // an if goes with its blocks
        rewrite(house, 0, 0, 1);
        lines(house, 4, 0, 3, 2, 5, 6, 7, 5);
        rewrite(house, 0, 0, 1);
        lines(house, 4, 5, 6, 7, 5, 0, 3, 2);
        rewrite(house, 0, 6, 1);
        lines(house, 4, 5, 7, 6, 5, 0, 3, 2);
        House empty = House.of("thread A { if 1 { } p = 1; }");
        rewrite(empty, 0, 0, 1);
        lines(empty, 1, 0);
    }

    private static void soundness() {
        House house = House.of("cell x; cell y; thread A { x = 1; y = 1; } thread B { p = y; q = x; }");
        rewrite(house, 0, 0, 1);
        for (int way = 0; way < 2; way++) {
            House.due("sound(" + way + ")", house.x.sound(way), 0);
            int i = house.x.gained();
            House.due("p", house.x.outcomeLocal(i, 1, 0), 1);
            House.due("q", house.x.outcomeLocal(i, 1, 1), 0);
        }
        // by views both orders of two stores come to the same
        House.due("sound(2)", house.x.sound(2), 1);
        // locals go by their names, though they first stand in another order
        House names = House.of("cell x; thread A { p = 1; q = x; } thread B { x = 5; }");
        rewrite(names, 0, 0, 1);
        House.due("sound", names.x.sound(0), 1);
        House.due("p", names.x.outcomeLocal(0, 0, 0), 1);
        // a local that stands nowhere then is 0
        House gone = House.of("thread A { p = 1; q = 1; }");
        rewrite(gone, 1, 0, 1);
        House.due("sound", gone.x.sound(0), 0);
        House.due("gained", gone.x.gained(), 0);
        House.due("p", gone.x.outcomeLocal(0, 0, 0), 0);
        // sorts count, too
        House sort = House.of("thread A { assert 1; } thread B later { }");
        rewrite(sort, 1, 0, 1);
        House.due("sound", sort.x.sound(0), 1);
        House wrong = House.of("thread A { join A; assert 0; }");
        rewrite(wrong, 0, 0, 1);
        House.due("sound", wrong.x.sound(0), 0);
    }

    private static void byWay() {
        House house = House.of("cell x; cell y; thread A { x = 1; fence; r = y; } thread B { y = 1; fence; s = x; }");
        rewrite(house, 1, 1, 1);
        House.due("sound(0)", house.x.sound(0), 1);
        House.due("sound(1)", house.x.sound(1), 0);
        House.due("sort", house.x.outcome(house.x.gained(), 0), 0);
        House.due("r", house.x.outcomeLocal(house.x.gained(), 0, 0), 0);
        House.due("s", house.x.outcomeLocal(house.x.gained(), 1, 0), 0);
        House.due("sound(2)", house.x.sound(2), 0);
    }

    /** A rewritten program has what the program has: volatile cells, first values, threads that start later. */
    private static void sameCells() {
        House house = House.of("cell x = 4; cell v volatile = 5; cell y; thread A { v = 1; x = 1; r = y; } thread B later { y = 1; s = x; }"
            + " thread C { t = v; u = x; }");
        rewrite(house, 1, 2, 1);
        for (int way = 0; way < 3; way++) {
            House.due("sound(" + way + ")", house.x.sound(way), 1);
            boolean olderLater = false;
            for (int i = 0; i < house.x.explored(3); i++) {
                House.due("y", house.x.outcomeCell(i, 2), 0);
                boolean first = house.x.outcomeLocal(i, 2, 0) == 5;
                House.due("t", first || house.x.outcomeLocal(i, 2, 0) == 1 ? 1 : 0, 1);
                olderLater = olderLater || !first && house.x.outcomeLocal(i, 2, 1) == 4;
            }
            House.due("x is 4 when v is 1", olderLater ? 1 : 0, 1);
        }
        House order = House.of("cell x; cell v volatile; thread A { x = 1; v = 1; r = 1; } thread B { s = v; t = x; }");
        rewrite(order, 1, 2, 1);
        order.x.sound(2);
        order.law("always !(ended B & B.s == 1 & B.t == 0)", 1, House.NONE);
        order.x.sound(1);
        order.law("always !(ended B & B.s == 1 & B.t == 0)", 1, House.NONE);
    }

    private static void whatIsExplored() {
        House house = House.of("cell x; thread A { x = 1; x = 2; x = 3; }");
        house.x.explore(1, true);
        rewrite(house, 1, 1, 1);
        House.due("explored by the program", house.x.explored(0), house.x.explore(1, true));
        House.due("sound", house.x.sound(0), 1);
        House.due("states", house.x.explored(0), 3);
        House.due("way", house.x.explored(4), 0);
        House.due("fewer", house.x.explored(5), 0);
        house.law("never x == 2", 1, House.NONE);
        House.due("chances", house.x.chances(0, 1, 1), 1);
        House.due("replay", house.x.replay(2), 0);
        House.due("line", house.x.step(1, 2), 2);
        House.due("x", house.x.cell(0), 3);
        house.x.replay(1);
        House.due("turn", house.x.turn(0, 0), 0);
        House.due("line", house.x.step(1, 2), 2);
        // explore goes by the program
        House.due("explore", house.x.explore(0, false), 4);
        house.law("never x == 2", 0, 2);
        house.x.replay(2);
        House.due("line", house.x.step(1, 2), 1);
    }

    private static void forgotten() {
        House house = House.of("cell x; thread A { x = 1; x = 2; x = 3; }");
        rewrite(house, 0, 0, 1);
        house.x.explore(0, false);
        house.begin(0, 0);
        // what is of the program stays
        rewrite(house, 0, 1, 1);
        House.due("explored", house.x.explored(0), 4);
        House.due("steps", house.x.step(-1, 0), 1);
        House.due("sound", house.x.sound(0), 1);
        house.x.replay(1);
        // changing nothing
        rewrite(house, 2, 0, 0);
        rewrite(house, 5, 0, House.BAD);
        House.due("explored", house.x.explored(0), 4);
        House.due("steps", house.x.step(-1, 0), 1);
        rewrite(house, 0, 1, 1);
        House.due("explored", house.x.explored(0), House.BAD);
        House.due("ready", house.x.ready(0), House.BAD);
        house.x.sound(0);
        house.x.replay(1);
        House.due("drop", house.x.drop(), 1);
        House.due("explored", house.x.explored(0), House.BAD);
        House.due("ready", house.x.ready(0), House.BAD);
        rewrite(house, 0, 0, 1);
        house.x.explore(0, false);
        house.x.replay(2);
        House.due("drop", house.x.drop(), 1);
        House.due("explored", house.x.explored(0), 4);
        House.due("steps", house.x.step(-1, 0), 2);
        // a rewriting begins from the program again
        rewrite(house, 1, 0, 1);
        House.due("sound", house.x.sound(0), 1);
        house.x.replay(2);
        House.due("line", house.x.step(0, 2), 1);
        House.due("line", house.x.step(1, 2), 2);
    }

    private static void full() {
        String nine = House.times(9, "fence;");
        House house = House.of("thread A { " + nine + "} thread B { " + nine + "} thread C { " + nine + "} thread D { "
            + "fence; fence; fence; fence; fence; fence; }");
        house.x.explore(0, false);
        rewrite(house, 1, 0, 1);
        House.due("sound(0)", house.x.sound(0), 1);
        House.due("states", house.x.explored(0), 6300);
        House.due("sound(2)", house.x.sound(2), House.FULL);
        House.due("explored", house.x.explored(0), House.BAD);
        // both are tried without fewer turns
        String eleven = House.times(11, "r = 1;");
        House quiet = House.of("thread A { " + eleven + "} thread B { " + eleven + "} thread C { " + eleven + "} thread D { " + eleven + "}");
        House.due("fewer turns", quiet.x.explore(0, true), 45);
        rewrite(quiet, 1, 0, 1);
        House.due("sound", quiet.x.sound(0), House.FULL);
        // the rewritten one has too many: its loop goes further
        House loop = House.of("thread A { while p < 998 { p = p + 1; } } thread B { while q < 998 { q = 998; q = q + 1; } }");
        House.due("explore", loop.x.explore(0, false) > 0 ? 1 : 0, 1);
        rewrite(loop, 1, 3, 1);
        House.due("sound", loop.x.sound(0), House.FULL);
        House.due("explored", loop.x.explored(0), House.BAD);
        House.due("replay", loop.x.replay(0), House.BAD);
    }

    /** B loads six times while A stores 1 up to some number: the values grow, and each row of them can come. */
    private static House loads(int stores) {
        StringBuilder a = new StringBuilder();
        for (int i = 1; i <= stores; i++) {
            a.append("x = ").append(i).append("; ");
        }
        return House.of("cell x; thread B { p = x; q = x; r = x; s = x; t = x; u = x; } thread A { " + a + "}");
    }

    private static void manyOutcomes() {
        House house = loads(8);
        rewrite(house, 2, 5, 1);
        House.due("sound", house.x.sound(0), 1);
        House.due("outcomes", house.x.explored(3), 1287);
        house.x.explore(0, false);
        House.due("outcomes", house.x.explored(3), 3003);
        House many = loads(9);
        House.due("explore", many.x.explore(0, false), 19447);
        House.due("outcomes", many.x.explored(3), 5005);
        rewrite(many, 2, 5, 1);
        House.due("sound", many.x.sound(0), House.FULL);
        House.due("explored", many.x.explored(0), House.BAD);
        House.due("outcome", many.x.outcome(0, 0), House.BAD);
    }

    private static void gained() {
        House house = House.of("cell x; cell y; thread A { x = 1; p = y; } thread B { y = 1; q = x; }");
        House.due("gained", house.x.gained(), House.NONE);
        rewrite(house, 0, 0, 1);
        House.due("sound", house.x.sound(0), 0);
        int gained = house.x.gained();
        House.due("p", house.x.outcomeLocal(gained, 0, 0), 0);
        House.due("q", house.x.outcomeLocal(gained, 1, 0), 0);
        rewrite(house, 0, 1, 1);
        House.due("gained stays", house.x.gained(), gained);
        House.due("sound", house.x.sound(0), 1);
        House.due("gained stays", house.x.gained(), gained);
        house.x.drop();
        house.x.explore(0, false);
        House.due("gained stays", house.x.gained(), gained);
        house.read("thread A { }");
        House.due("gained", house.x.gained(), House.NONE);
    }
}
