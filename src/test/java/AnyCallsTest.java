import java.util.Random;

/** All promises: any calls with any arguments, in any order, throw nothing, end, and are answered alike by two objects. */
public final class AnyCallsTest {
    private static final int[] EDGES = {-1, 0, 1, 2, 3, 4, 5, 6, 8, 9, 10, 12, 13, 19, 20, 21, 100, 199, 200, 201, -2, -100,
        Integer.MIN_VALUE, Integer.MAX_VALUE, Integer.MIN_VALUE + 1, 1 << 30, 65536};
    private static final String[] TEXTS = {
        "", "cell", "always x", "may A.r", "fair must ended A", "x leads stuck", "never held l == 0", "$", "must waits A | wrong B",
        "cell x; cell v volatile; thread A { x = 1; r = v; x = 2; s = x; } thread B { r = x; v = 1; r = x; s = x; }",
        "cell x; lock l; lock m; thread A { lock l; lock m; add x, 1 into r; unlock m; wait l; unlock l; } thread B { lock m; lock l; wake l; x = 2; }",
        "cell x; thread A { call push 1; reply; call pop; reply r; } thread B { call pop; reply 1; while 1 { x = 1; } }",
        "cell x; thread A { while r < 3 { r = x; add x, 1 into s; } assert r == 9; } thread B later { x = 1; } thread C { start B; join B; x = 7; }",
        "cell a; cell b; cell c; cell d; cell e; cell f; cell g; cell h; lock i; lock j; lock k; lock l; thread A { a = 1; fence; r = h; halt; }"
            + " thread B { cas h, 0, 999 into r; call get; reply; } thread C { if r { r = 1; } else { lock l; wait l; } } thread D { wakeall l; }",
        "cell x; thread A { x = 1; x = 2; x = 3; x = 4; x = 5; x = 6; x = 7; x = 8; x = 9; } thread B { r = x; r = x; } thread C { cas x, 8, 999 + 1; }",
        "thread A { while 1 { } } thread B { while 1 { r = 1 - r; } }"};

    private static int number;

    public static void main(String[] args) {
        for (int seed = 0; seed < 120; seed++) {
            anyCalls(seed);
        }
        extremesOfEachCall();
        the512thCall();
        House.finish();
    }

    /** The same calls on two objects, one after the other, come to the same answers. */
    private static void anyCalls(int seed) {
        House one = new House();
        House other = new House();
        Random random = new Random(seed);
        for (number = 0; number < 240; number++) {
            long draw = random.nextLong();
            int answer = anyCall(one, new Random(draw));
            House.due("call " + number + " of seed " + seed, anyCall(other, new Random(draw)), answer);
        }
    }

    private static int anyCall(House house, Random random) {
        int a = argument(random);
        int b = argument(random);
        int c = argument(random);
        TurnHouse x = house.x;
        int which = random.nextInt(45);
        if (which < 3) {
            house.feed(TEXTS[random.nextInt(TEXTS.length)]);
            return which == 0 ? x.judge() : x.program();
        }
        switch (which) {
            case 3: return x.feed(a, b, c, a, b);
            case 4: return x.end(a);
            case 5: return x.judge();
            case 6: return x.count(a);
            case 7: return x.line(a, b);
            case 8: return x.begin(random.nextInt(4));
            case 9: return x.ready(a);
            case 10: case 11: case 12: case 13: return anyTurn(x, random);
            case 14: return x.turn(a, b);
            case 15: return x.thread(a, b);
            case 16: return x.local(a, b);
            case 17: return x.cell(a);
            case 18: return x.seen(a, b);
            case 19: return x.held(a, b);
            case 20: return x.step(a, b);
            case 21: return x.before(a, b);
            case 22: return x.runRace(a, b);
            case 23: return x.linear(a);
            case 24: return x.ordered(a);
            case 25: case 26: return x.explore(random.nextInt(4), random.nextInt(3) == 0);
            case 27: return x.explored(a);
            case 28: return x.outcome(a, b);
            case 29: return x.outcomeCell(a, b);
            case 30: return x.outcomeLocal(a, b, c);
            case 31: return x.schedule(a, b);
            case 32: case 33: return x.replay(a);
            case 34: return x.chances(a, b, c);
            case 35: return x.race(a, b);
            case 36: return x.guard(a);
            case 37: return x.ring(a);
            case 38: return x.order(a, b);
            case 39: return x.where();
            case 40: return x.rewrite(random.nextInt(3), random.nextInt(12));
            case 41: return x.rewrite(a, b);
            case 42: return x.drop();
            case 43: return x.sound(random.nextInt(4));
            default: return x.gained();
        }
    }

    private static int argument(Random random) {
        int kind = random.nextInt(8);
        return kind < 5 ? random.nextInt(5) - 1 : kind < 7 ? EDGES[random.nextInt(EDGES.length)] : random.nextInt();
    }

    private static int anyTurn(TurnHouse x, Random random) {
        int step = x.ready(random.nextInt(4));
        return step < 0 ? step : x.turn(step / 10, step % 10);
    }

    /** Each call with the least and the greatest numbers that there are, in each state of an object. */
    private static void extremesOfEachCall() {
        int[] extremes = {Integer.MIN_VALUE, Integer.MAX_VALUE, Integer.MIN_VALUE + 1, Integer.MAX_VALUE - 1, -7, 1 << 20};
        for (int state = 0; state < 4; state++) {
            for (int e : extremes) {
                House house = new House();
                if (state > 0) {
                    house.read("cell x; lock l; thread A { x = 1; r = x; } thread B { lock l; x = 2; call read; }");
                }
                if (state > 1) {
                    house.begin(state - 1, 0, 10);
                    house.x.explore(0, false);
                }
                if (state > 2) {
                    house.x.rewrite(1, 0);
                    house.x.sound(0);
                }
                refused(house.x, e, state > 1);
            }
        }
    }

    private static void refused(TurnHouse x, int e, boolean runs) {
        int none = runs ? House.NONE : House.BAD;
        int value = runs ? House.NO_VALUE : House.BAD;
        int[] got = {x.end(e), x.count(e), x.line(e, 0), x.line(0, e), x.line(e, e), x.begin(e), x.thread(e, 0), x.thread(0, e), x.thread(e, e),
            x.held(e, 0), x.held(0, e), x.held(e, e), x.step(e, 0), x.step(0, e), x.step(e, e), x.before(e, 0), x.before(0, e), x.before(e, e),
            x.runRace(e, 0), x.runRace(0, e), x.runRace(-1, e), x.linear(e), x.explore(e, true), x.explore(e, false), x.explored(e), x.outcome(e, 0),
            x.outcome(0, e), x.schedule(e, -1), x.schedule(0, e), x.schedule(e, e), x.replay(e), x.chances(e, 1, 1), x.chances(0, e, 1),
            x.chances(0, 1, e), x.race(e, 0), x.race(0, e), x.race(-1, e), x.guard(e), x.ring(e), x.order(e, 0), x.order(0, e), x.order(e, e),
            x.rewrite(e, 0), x.rewrite(0, e), x.rewrite(e, e), x.sound(e)};
        for (int i = 0; i < got.length; i++) {
            House.due("refused call " + i + " with " + e, got[i], House.BAD);
        }
        int[] values = {x.cell(e), x.seen(e, 0), x.seen(0, e), x.seen(e, e), x.outcomeCell(e, 0), x.outcomeCell(0, e), x.outcomeLocal(e, 0, 0),
            x.outcomeLocal(0, e, 0), x.outcomeLocal(0, 0, e), x.outcomeLocal(e, e, e)};
        for (int i = 0; i < values.length; i++) {
            House.due("value " + i + " with " + e, values[i], House.NO_VALUE);
        }
        House.due("ready", x.ready(e), none);
        House.due("turn", x.turn(e, 0), none);
        House.due("turn", x.turn(0, e), none);
        House.due("turn", x.turn(e, e), none);
        House.due("local", x.local(e, 0), value);
        House.due("local", x.local(0, e), value);
        House.due("ordered", x.ordered(e), House.NONE);
    }

    private static void the512thCall() {
        House.sentence("An object is used for at most 512 calls after it has been made");
        String program = "cell x; thread A { x = 1; r = x; } thread B { x = 2; s = x; }";
        House fresh = House.of(program);
        int[] due = {fresh.x.explore(1, false), fresh.x.explore(2, true), fresh.x.explore(0, false), fresh.x.chances(0, 1, 1), fresh.x.begin(0)};
        House house = House.of(program);
        // four calls of feed(), one of end(), one of program()
        int calls = 6;
        for (; calls < 500; calls += 5) {
            int[] got = {house.x.explore(1, false), house.x.explore(2, true), house.x.explore(0, false), house.x.chances(0, 1, 1), house.x.begin(0)};
            for (int i = 0; i < due.length; i++) {
                House.due("answer " + i + " behind " + calls + " calls", got[i], due[i]);
            }
        }
        for (; calls < 511; calls++) {
            House.due("switches", house.x.outcome(0, 2), 0);
        }
        House.due("the 512th call", house.x.explored(3), 4);
    }
}
