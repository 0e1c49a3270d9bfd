/** Promises 5 and 6: counts and lines of a program. */
public final class LineTest {
    public static void main(String[] args) {
        counts();
        everyKind();
        House.finish();
    }

    private static void counts() {
        House house = House.of("cell x = 5; cell y; lock l; thread A { r = x; x = 1 + r * 2; if !(r) { call w 1; } }"
            + "thread B { cas x, 1, - r into r; add x, r; reply; assert 1; }");
        TurnHouse x = house.x;
        House.due("fault", x.count(0), 0);
        House.due("place", x.count(1), House.NONE);
        House.due("bytes", x.count(2), 0);
        House.due("cells", x.count(3), 2);
        House.due("locks", x.count(4), 1);
        House.due("threads", x.count(5), 2);
        House.due("lines", x.count(6), 8);
        // a load, brackets and first values are no nodes: 5 + 2 + 1, 3 + 1 + 1
        House.due("nodes", x.count(7), 13);
        House.due("count(8)", x.count(8), House.BAD);
        House.due("count(-1)", x.count(-1), House.BAD);
        house.feed("abc");
        House.due("bytes", x.count(2), 3);
        x.explore(0, false);
        House.due("judge()", x.judge(), -13);
        House.due("fault of a law", x.count(0), 3);
        House.due("place in a law", x.count(1), 0);
        House.due("lines", x.count(6), 8);
        house.law("always 1", 1, House.NONE);
        House.due("fault", x.count(0), 0);
        House.due("place", x.count(1), House.NONE);
    }

    private static void everyKind() {
        House house = House.of("cell c; cell x; lock k; lock l; thread A { p = 1; q = x; x = q; cas x, 1, 2 into p;"
            + " cas x, 1, 2; add x, 1 into q; add c, 1; lock l; unlock l; wait l; wake l; wakeall l; start B; join A;"
            + " fence; halt; assert p; call w; reply; if p { while q { p = 2; } } else { q = c; } }"
            + " thread B later { lock k; }");
        int none = House.NONE;
        int[][] due = {
            {0, 0, none, 0, 0}, {1, 0, 1, 1, 0}, {2, 0, 1, none, 0}, {3, 0, 1, 0, 0}, {3, 0, 1, none, 0},
            {4, 0, 1, 1, 0}, {4, 0, 0, none, 0}, {5, 0, 1, none, 0}, {6, 0, 1, none, 0}, {7, 0, 1, none, 0},
            {8, 0, 1, none, 0}, {9, 0, 1, none, 0}, {10, 0, 1, none, 0}, {11, 0, 0, none, 0}, {12, 0, none, none, 0},
            {13, 0, none, none, 0}, {14, 0, none, none, 0}, {15, 0, none, none, 0}, {16, 0, none, none, 0},
            {17, 0, none, none, 0}, {18, 0, none, none, 1}, {0, 0, none, 0, 2}, {1, 0, 0, 1, 1}, {5, 1, 0, none, 0}};
        House.due("lines", house.x.count(6), due.length);
        for (int i = 0; i < due.length; i++) {
            for (int what = 0; what < 5; what++) {
                House.due("line(" + i + ", " + what + ")", house.x.line(i, what), due[i][what]);
            }
            House.due("line(" + i + ", 5)", house.x.line(i, 5), House.BAD);
            House.due("line(" + i + ", -1)", house.x.line(i, -1), House.BAD);
        }
        House.due("line(24, 0)", house.x.line(24, 0), House.BAD);
        House.due("line(-1, 0)", house.x.line(-1, 0), House.BAD);
        // lines go by the program, rewritten or not
        House.due("rewrite", house.x.rewrite(0, 0), 1);
        House.due("line(0, 0)", house.x.line(0, 0), 0);
        House.due("rewrite", house.x.rewrite(1, 1), 1);
        House.due("line(1, 0)", house.x.line(1, 0), 1);
        House.due("lines", house.x.count(6), 24);
    }
}
