/** Promises 32 and 33: laws, and what shows that they hold or not. */
public final class LawTest {
    public static void main(String[] args) {
        nothingExplored();
        grammar();
        faults();
        facts();
        beyond();
        alwaysNeverMay();
        must();
        leads();
        fair();
        fairByWay();
        whereOfLeads();
        fewer();
        whereStays();
        House.finish();
    }

    private static House explored(String program) {
        House house = House.of(program);
        house.x.explore(0, false);
        return house;
    }

    private static void nothingExplored() {
        House house = House.of("thread A { r = 1; }");
        House.due("judge", house.law("always 1"), House.BAD);
        // nothing is read then: the text is there still
        House.due("bytes", house.x.count(2), 8);
        House.due("fault", house.x.count(0), 0);
        house.x.explore(0, false);
        House.due("judge", house.x.judge(), 1);
        House.due("bytes", house.x.count(2), 0);
    }

    private static void grammar() {
        House house = explored("cell x = 2; lock l; thread A { r = 1; }");
        house.law("always x==2", 1, House.NONE);
        house.law(" # a remark\n never x == 1 # behind", 1, House.NONE);
        house.law("may A . r == 1 & (ended A | stuck)", 1, 1);
        house.law("must ended A", 1, House.NONE);
        house.law("fair must ended A", 1, House.NONE);
        house.law("x == 2 leads A.r", 1, House.NONE);
        house.law("fair x == 2 leads A.r", 1, House.NONE);
        house.law("(x) leads !(0)", 1, House.NONE);
        house.law("always - x == 0 - 2 & x * 3 == 6 & x != 3 & x < 3 & x <= 2 & x >= 2 & x > 1", 1, House.NONE);
        house.law("always 1 | 0 & 0", 1, House.NONE);
        house.law("always " + House.times(8, "(") + "1" + House.times(8, ")"), 1, House.NONE);
        house.law("always x" + House.times(199, "*1"), 1, House.NONE);
        house.law("1" + House.times(99, "*1") + " leads x" + House.times(100, "*1"), 1, House.NONE);
    }

    private static void faults() {
        House house = explored("cell x; lock l; thread A { r = 1; } thread B { s = 1; }");
        house.lawFault("always @$", 1);
        house.lawFault("always @1234", 1);
        house.lawFault("always x @\u00ff", 1);
        house.lawFault("@", 2);
        house.lawFault("always @", 2);
        house.lawFault("always x @1", 2);
        house.lawFault("always x @;", 2);
        house.lawFault("always @must x", 2);
        house.lawFault("fair @always x", 2);
        house.lawFault("fair @never x", 2);
        house.lawFault("must x @leads x", 2);
        house.lawFault("x @", 2);
        house.lawFault("x leads @", 2);
        house.lawFault("x leads x @leads x", 2);
        house.lawFault("fair x @must x", 2);
        house.lawFault("fair @fair x leads x", 2);
        house.lawFault("always A@", 2);
        house.lawFault("always A @== 1", 2);
        house.lawFault("always A.@1", 2);
        house.lawFault("always A.@held", 2);
        house.lawFault("always ended @1", 2);
        house.lawFault("always held @", 2);
        house.lawFault("always @lock", 2);
        house.lawFault("always (x @", 2);
        house.lawFault("always x @= 1", 2);
        house.lawFault("always @l", 3);
        house.lawFault("always @r", 3);
        house.lawFault("always @nobody", 3);
        house.lawFault("always A.@s", 3);
        house.lawFault("always A.@x", 3);
        house.lawFault("always x @. r", 2);
        house.lawFault("always ended @l", 3);
        house.lawFault("always ended @x", 3);
        house.lawFault("always wrong @l", 3);
        house.lawFault("always waits @nobody", 3);
        house.lawFault("always held @A", 3);
        house.lawFault("always held @x", 3);
        house.lawFault("always " + House.times(9, "(") + "@x", 4);
        house.lawFault("always " + House.times(9, "!") + "@ended A", 4);
        house.lawFault("always " + House.times(9, "(") + "@r", 3);
        // 399 nodes, the operator, and one too many
        house.lawFault("always 1" + House.times(199, "*1") + "*@A.r", 4);
        house.lawFault("always 1" + House.times(199, "*1") + "*@ended A", 4);
        house.lawFault("always 1" + House.times(199, "*1") + "*@held l", 4);
        house.lawFault("always 1" + House.times(199, "*1") + "*@nobody", 3);
        house.lawFault("always -1" + House.times(199, "*1") + "@*1", 4);
        house.lawFault("1" + House.times(99, "*1") + " leads - 1" + House.times(99, "*1") + "*@stuck", 4);
        // a fault tells nothing of laws judged before
        house.law("never ended A", 0, 1);
        house.lawFault("always @l", 3);
        House.due("where", house.x.where(), 1);
    }

    private static void facts() {
        House house = explored("cell x = 7; lock l; thread A { p = 5; lock l; wait l; } thread B later { } thread C { assert 0; }");
        int waits = -1;
        for (int s = 0; s < house.x.explored(0); s++) {
            house.x.replay(s);
            if (waits < 0 && house.x.thread(0, 0) == 2) {
                waits = s;
            }
        }
        house.law("may waits A", 1, waits);
        house.law("may waits B", 0, House.NONE);
        house.law("may ended B", 0, House.NONE);
        house.law("may wrong A", 0, House.NONE);
        house.law("may wrong C", 1, 2);
        house.law("always (wrong C == 1) + (wrong C == 0) == 1", 1, House.NONE);
        house.law("always held l == - 1 | held l == 0", 1, House.NONE);
        house.law("may held l == 0 & A.p == 5", 1, 3);
        house.law("always x == 7", 1, House.NONE);
        house.law("may stuck", 1, house.x.outcome(0, 1));
        House none = explored("thread A { halt; }");
        none.law("never stuck", 1, House.NONE);
        none.law("may ended A", 1, 1);
        // a woken one waits no more
        House woken = explored("lock l; thread A { lock l; start B; wait l; } thread B later { lock l; wakeall l; r = 1; unlock l; }");
        woken.law("never waits A & B.r", 1, House.NONE);
        woken.law("may B.r & held l == 1 & !ended A", 1, 6);
        House memory = House.of("cell x; thread A { x = 1; r = x; }");
        memory.x.explore(1, false);
        memory.law("may A.r == 1 & x == 0", 1, 2);
    }

    private static void beyond() {
        House house = explored("cell x = 999; thread A { fence; }");
        house.law("may x + 1", 0, House.NONE);
        house.law("may !(x + 1)", 0, House.NONE);
        house.law("may x + 1 - 1", 0, House.NONE);
        house.law("may 1 | x * 2", 0, House.NONE);
        house.law("always x + 0", 1, House.NONE);
        house.law("never - x - 1", 1, House.NONE);
        house.law("always x + 1 | 1", 0, 0);
    }

    private static void alwaysNeverMay() {
        House house = explored("cell x; thread A { x = 1; x = 2; x = 1; }");
        house.law("always x < 2", 0, 2);
        house.law("always x < 3", 1, House.NONE);
        house.law("never x == 1", 0, 1);
        house.law("never x == 3", 1, House.NONE);
        house.law("may x == 1", 1, 1);
        house.law("may x == 3", 0, House.NONE);
    }

    private static void must() {
        House house = explored("cell x; thread A { x = 1; x = 0; } thread B { if 0 { } }");
        house.law("must x == 1", 1, House.NONE);
        house.law("must x == 2", 0, 0);
        house.law("must x == 0", 1, House.NONE);
        house.law("must ended A & ended B", 1, House.NONE);
        House choice = explored("cell x; thread A { x = 1; r = x; } thread B { x = 2; }");
        choice.law("must A.r == 1", 0, 0);
        choice.law("must A.r", 1, House.NONE);
        House loop = explored("thread A { while 1 { } } thread B { r = 1; }");
        loop.law("must B.r", 0, 0);
        loop.law("fair must B.r", 1, House.NONE);
        loop.law("fair must ended A", 0, 0);
        House ends = explored("lock l; thread A { lock l; } thread B { lock l; r = 1; }");
        ends.law("fair must B.r", 0, 0);
    }

    private static void leads() {
        House house = explored("cell x; thread A { x = 1; x = 2; x = 3; x = 1; }");
        house.law("x == 1 leads x == 2", 0, 4);
        house.law("x == 2 leads x == 1", 1, House.NONE);
        house.law("x == 1 leads x == 1", 1, House.NONE);
        house.law("x == 7 leads x == 8", 1, House.NONE);
        house.law("x == 3 leads x == 3 | x == 0", 1, House.NONE);
        house.law("x == 3 leads x == 2", 0, 3);
        house.law("1 leads ended A", 1, House.NONE);
    }

    private static void fair() {
        // A lock is ready again and again, but not in each state: to go without it is fair
        House house = explored("lock l; thread A { while 1 { lock l; unlock l; } } thread B { lock l; r = 1; unlock l; }");
        house.law("fair must B.r", 0, 0);
        House spin = explored("cell x; thread A { r = x; while r == 0 { r = x; } } thread B { x = 1; }");
        spin.law("must ended A", 0, 0);
        spin.law("fair must ended A", 1, House.NONE);
        spin.law("x == 0 leads ended A", 0, 0);
        spin.law("fair x == 0 leads ended A", 1, House.NONE);
        spin.law("x == 1 leads ended A", 1, House.NONE);
        House two = explored("thread A { while 1 { p = 1 - p; } } thread B { while 1 { q = 1 - q; } }");
        two.law("must A.p", 0, 0);
        two.law("fair must A.p", 1, House.NONE);
        two.law("fair must A.p & B.q", 0, 0);
        two.law("fair must A.p | B.q", 1, House.NONE);
        two.law("fair A.p leads !A.p", 1, House.NONE);
        two.law("A.p leads !A.p", 0, 3);
        // a way round by one thread alone is fair where the other one rests
        House rest = explored("lock l; thread A { lock l; while 1 { } } thread B { lock l; }");
        rest.law("fair must ended B", 0, 0);
    }

    private static void fairByWay() {
        House house = House.of("cell x; thread A { x = 1; while 1 { } }");
        house.x.explore(1, false);
        // the flush is a step of A, and so A takes steps without it
        house.law("fair must x == 1", 0, 0);
        House other = House.of("cell x; thread A { x = 1; } thread B { while 1 { } }");
        other.x.explore(1, false);
        other.law("fair must x == 1", 1, House.NONE);
        other.law("must x == 1", 0, 0);
    }

    private static void whereOfLeads() {
        // from the state with x == 1 one goes back to lesser states: the least of those shows it
        House house = explored("cell x; cell y; thread A { while 1 { x = 1; x = 0; } }");
        house.law("x == 1 leads y == 1", 0, 0);
        house.law("x == 1 leads x == 1 + 1", 0, 0);
        House wanted = explored("cell x; cell y; thread A { y = 1; while 1 { x = 1; x = 0; } }");
        wanted.law("x == 1 leads y == 0", 0, 1);
        // a state without the fact wanted to which one comes over one with it does not count
        House over = explored("cell x; thread A { x = 1; x = 2; x = 3; join A; }");
        over.law("x == 1 leads x == 2", 1, House.NONE);
        over.law("x == 1 | x == 3 leads x == 2", 0, 3);
    }

    private static void fewer() {
        House house = House.of("thread A { r = 1; } thread B { s = 1; }");
        house.x.explore(0, true);
        house.law("always A.r == 1 | B.s == 0", 1, House.NONE);
        house.law("never B.s == 1 & A.r == 0", 1, House.NONE);
        house.law("may B.s", 1, 2);
        House.due("must", house.law("must B.s"), House.BAD);
        House.due("bytes", house.x.count(2), 0);
        House.due("fault", house.x.count(0), 0);
        House.due("fair must", house.law("fair must B.s"), House.BAD);
        House.due("leads", house.law("1 leads B.s"), House.BAD);
        House.due("where", house.x.where(), 2);
        house.lawFault("must @r", 3);
        house.lawFault("1 leads @", 2);
        house.x.explore(0, false);
        house.law("must B.s", 1, House.NONE);
    }

    private static void whereStays() {
        House house = explored("cell x; thread A { x = 1; }");
        House.due("where", house.x.where(), House.NONE);
        house.law("never x == 1", 0, 1);
        house.x.explore(2, true);
        House.due("where", house.x.where(), 1);
        house.x.begin(0);
        House.due("where", house.x.where(), 1);
        house.read("thread B { }");
        House.due("where", house.x.where(), House.NONE);
    }
}
