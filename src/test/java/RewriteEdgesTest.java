/** Edges of section 9 and of promises 34 to 37: each test goes by one sentence of the document. */
public final class RewriteEdgesTest {
    private static final int[] OTHERS = {-1, -2, 100, Integer.MIN_VALUE, Integer.MAX_VALUE};

    public static void main(String[] args) {
        placesInABlock();
        placesOfTheLast();
        placesOfBlocks();
        leftOutButNoBlocks();
        leftOutAllOfABlock();
        reusedRightBehind();
        reusedOnce();
        ofTheRewrittenOne();
        changingNothing();
        rewriteNoneSuch();
        leftOutAlready();
        goneByRewrite();
        dropNone();
        goneByDrop();
        linesStayAsTheyWere();
        programStaysAsItWas();
        soundByAWay();
        soundSortsMemoryLocals();
        soundByName();
        soundWithoutFewer();
        soundNone();
        soundNoWay();
        soundStates();
        soundViewStates();
        soundOutcomes();
        soundExplores();
        gainedTheLeast();
        gainedStays();
        gainedNone();
        House.finish();
    }

    private static void rewrite(House house, int kind, int line, int due) {
        House.due("rewrite(" + kind + ", " + line + ")", house.x.rewrite(kind, line), due);
    }

    private static void sound(House house, int way, int due) {
        House.due("sound(" + way + ")", house.x.sound(way), due);
    }

    /** The lines of the rewritten program, which has one thread that takes them one by one. */
    private static void lines(House house, int... due) {
        House.due("sound", house.x.sound(0) >= 0 ? 1 : 0, 1);
        int last = house.x.explored(0) - 1;
        house.x.replay(last);
        House.due("steps", house.x.step(-1, 0), due.length);
        for (int i = 0; i < due.length; i++) {
            House.due("line of step " + i, house.x.step(i, 2), due[i]);
        }
    }

    private static void placesInABlock() {
        House.sentence("0 it and the next statement of its block change places");
        House house = House.of("thread A { r = 1; fence; halt; }");
        rewrite(house, 0, 0, 1);
        lines(house, 1, 0, 2);
        rewrite(house, 0, 0, 1);
        lines(house, 1, 2);
        rewrite(house, 0, 2, 1);
        lines(house, 1, 0, 2);
        rewrite(house, 0, 1, 1);
        lines(house, 0, 1, 2);
        House.due("sound again", house.x.sound(0), 1);
        // in the blocks of an if and a while
        House inner = House.of("thread A { if 1 { r = 1; s = 1; } else { r = 2; s = 2; } while t < 1 { t = 1; u = 1; } }");
        rewrite(inner, 0, 1, 1);
        rewrite(inner, 0, 3, 1);
        rewrite(inner, 0, 6, 1);
        lines(inner, 0, 2, 1, 5, 7, 6, 5);
        // of a thread that is not the first
        House second = House.of("thread A { } thread B { r = 1; s = 1; }");
        rewrite(second, 0, 0, 1);
        lines(second, 1, 0);
    }

    private static void placesOfTheLast() {
        House.sentence("0, changing nothing: that can't be. (of the last statement of a block)");
        House house = House.of("thread A { if 1 { r = 1; } else { r = 2; } while 0 { r = 3; } } thread B { r = 4; }");
        int[] last = {1, 2, 3, 4, 5};
        for (int line : last) {
            rewrite(house, 0, line, 0);
        }
        sound(house, 0, House.NONE);
        House.due("drop", house.x.drop(), 0);
        rewrite(house, 0, 0, 1);
        // it is the last one then
        rewrite(house, 0, 0, 0);
        rewrite(house, 0, 3, 1);
    }

    private static void placesOfBlocks() {
        House.sentence("it and the next statement of its block change places (with their blocks)");
        House house = House.of("thread A { if 1 { r = 1; } else { r = 2; } while s < 1 { s = 1; } fence; }");
        rewrite(house, 0, 0, 1);
        lines(house, 3, 4, 3, 0, 1, 5);
        rewrite(house, 0, 0, 1);
        lines(house, 3, 4, 3, 5, 0, 1);
        rewrite(house, 0, 3, 1);
        lines(house, 5, 3, 4, 3, 0, 1);
        // an empty block
        House empty = House.of("thread A { if 0 { } while 0 { } fence; }");
        rewrite(empty, 0, 0, 1);
        rewrite(empty, 0, 0, 1);
        lines(empty, 1, 2, 0);
        // the last line of a while's block goes on to the while, whichever it is
        House loop = House.of("thread A { while r < 2 { r = r + 1; if 1 { fence; } } halt; }");
        rewrite(loop, 0, 1, 1);
        lines(loop, 0, 2, 3, 1, 0, 2, 3, 1, 0, 4);
    }

    private static void leftOutButNoBlocks() {
        House.sentence("1 it is left out (no 'if', 'while')");
        House house = House.of("cell x; cell v volatile; lock l; thread A { r = 1; r = x; x = 1; cas x, 1, 2; add x, 1; lock l; unlock l; wait l; wake l; wakeall l;"
            + " start A; join A; fence; halt; assert 1; call w; reply; if 1 { } else { } while 1 { } }");
        for (int i = 0; i < 19; i++) {
            rewrite(house, 1, i, i < 17 ? 1 : 0);
        }
        rewrite(house, 0, 17, 1);
        House kept = House.of("thread A { if 1 { fence; } while r < 1 { r = 1; } }");
        rewrite(kept, 1, 0, 0);
        rewrite(kept, 1, 2, 0);
        sound(kept, 0, House.NONE);
        rewrite(kept, 1, 1, 1);
        lines(kept, 0, 2, 3, 2);
    }

    private static void leftOutAllOfABlock() {
        House.sentence("it is left out (the first, the last, the one in the middle, all of a block)");
        int[][] due = {{1, 2}, {0, 2}, {0, 1}};
        for (int i = 0; i < 3; i++) {
            House house = House.of("thread A { fence; r = 1; fence; }");
            rewrite(house, 1, i, 1);
            lines(house, due[i]);
        }
        House all = House.of("thread A { fence; r = 1; fence; }");
        rewrite(all, 1, 1, 1);
        rewrite(all, 1, 0, 1);
        rewrite(all, 1, 2, 1);
        lines(all);
        House.due("the thread has ended at first", all.x.thread(0, 0), 4);
        House inner = House.of("thread A { if 1 { fence; } else { fence; } while r < 0 { fence; } if 0 { } else { fence; } halt; }");
        rewrite(inner, 1, 1, 1);
        rewrite(inner, 1, 2, 1);
        rewrite(inner, 1, 4, 1);
        rewrite(inner, 1, 6, 1);
        lines(inner, 0, 3, 5, 7);
        House loop = House.of("thread A { while 1 { fence; } }");
        rewrite(loop, 1, 1, 1);
        sound(loop, 0, 1);
        House.due("states", loop.x.explored(0), 1);
    }

    private static void reusedRightBehind() {
        House.sentence("2 a LOAD right behind a LOAD of the same cell becomes a SETTING from that one's local.");
        House house = House.of("cell x = 5; cell y = 6; cell v volatile = 7; thread A { a = x; b = x; a = y; c = v; d = v; fence; e = v; if 1 { f = v; } b = x; if 1 { b = x; } }");
        int[] due = {0, 1, 0, 0, 1, 0, 0, 0, 0, 0, 0, 0};
        for (int line = 0; line < due.length; line++) {
            rewrite(house, 2, line, due[line]);
        }
        sound(house, 0, 1);
        House.due("b", house.x.outcomeLocal(0, 0, 1), 5);
        House.due("d", house.x.outcomeLocal(0, 0, 3), 7);
        // what the local has, not what the cell has now
        House other = House.of("cell x; thread A { a = x; b = x; } thread B { x = 1; }");
        rewrite(other, 2, 1, 1);
        sound(other, 0, 1);
        House.due("outcomes", other.x.explored(3), 2);
        other.x.begin(0);
        House.due("the program loads still", other.x.line(1, 0), 1);
        for (int i = 0; i < 2; i++) {
            House.due("b is a", other.x.outcomeLocal(i, 0, 1), other.x.outcomeLocal(i, 0, 0));
        }
        // from its own local
        House own = House.of("cell x = 3; thread A { a = x; a = x; }");
        rewrite(own, 2, 1, 1);
        sound(own, 0, 1);
        House.due("a", own.x.outcomeLocal(0, 0, 0), 3);
        // other lines than loads
        House lines = House.of("cell x; thread A { a = x; x = 1; a = x; add x, 0 into a; a = x; a = 1; cas x, 0, 1; r = x; if a { s = x; } else { t = x; } u = x; }");
        for (int line = 0; line < 12; line++) {
            rewrite(lines, 2, line, 0);
        }
        // the first of another thread's block is behind nothing
        House threads = House.of("cell x; thread A { a = x; } thread B { b = x; }");
        rewrite(threads, 2, 1, 0);
    }

    private static void reusedOnce() {
        House.sentence("(what became a SETTING is no LOAD then)");
        House house = House.of("cell x; thread A { a = x; b = x; c = x; d = x; } thread B { x = 1; }");
        rewrite(house, 2, 1, 1);
        rewrite(house, 2, 1, 0);
        rewrite(house, 2, 2, 0);
        rewrite(house, 2, 3, 1);
        sound(house, 0, 1);
        for (int i = 0; i < house.x.explored(3); i++) {
            House.due("b is a", house.x.outcomeLocal(i, 0, 1), house.x.outcomeLocal(i, 0, 0));
            House.due("d is c", house.x.outcomeLocal(i, 0, 3), house.x.outcomeLocal(i, 0, 2));
        }
        // the setting keeps its local wherever it goes
        House moved = House.of("cell x = 2; thread A { a = x; b = x; a = 9; }");
        rewrite(moved, 2, 1, 1);
        rewrite(moved, 0, 1, 1);
        sound(moved, 0, 0);
        House.due("b", moved.x.outcomeLocal(0, 0, 1), 9);
        // one that comes to stand right behind another load
        House comes = House.of("cell x; thread A { a = x; fence; b = x; }");
        rewrite(comes, 2, 2, 0);
        rewrite(comes, 1, 1, 1);
        rewrite(comes, 2, 2, 1);
        House swapped = House.of("cell x; thread A { a = x; fence; b = x; }");
        rewrite(swapped, 0, 1, 1);
        rewrite(swapped, 2, 0, 0);
        rewrite(swapped, 2, 2, 1);
        House first = House.of("cell x; thread A { a = x; b = x; }");
        rewrite(first, 0, 0, 1);
        rewrite(first, 2, 1, 0);
        rewrite(first, 2, 0, 1);
        sound(first, 0, 1);
    }

    private static void ofTheRewrittenOne() {
        House.sentence("A line of the program (of the rewritten one, if there is one) is rewritten: 1");
        House house = House.of("thread A { fence; r = 1; halt; }");
        rewrite(house, 1, 0, 1);
        rewrite(house, 0, 1, 1);
        lines(house, 2);
        // begun from the program again behind drop()
        House.due("drop", house.x.drop(), 1);
        rewrite(house, 0, 1, 1);
        lines(house, 0, 2);
        House.due("drop", house.x.drop(), 1);
        rewrite(house, 1, 2, 1);
        lines(house, 0, 1);
        // and behind program()
        house.read("thread A { fence; r = 1; halt; }");
        rewrite(house, 1, 0, 1);
        lines(house, 1, 2);
    }

    private static void changingNothing() {
        House.sentence("0, changing nothing: that can't be.");
        House house = House.of("cell x; thread A { r = x; if 1 { s = x; } }");
        rewrite(house, 0, 1, 0);
        rewrite(house, 0, 2, 0);
        rewrite(house, 1, 1, 0);
        rewrite(house, 2, 0, 0);
        rewrite(house, 2, 1, 0);
        rewrite(house, 2, 2, 0);
        sound(house, 0, House.NONE);
        House.due("drop", house.x.drop(), 0);
        rewrite(house, 0, 0, 1);
        sound(house, 0, 1);
        house.x.replay(1);
        int states = house.x.explored(0);
        rewrite(house, 0, 0, 0);
        rewrite(house, 1, 1, 0);
        rewrite(house, 2, 0, 0);
        House.due("what was explored stays", house.x.explored(0), states);
        House.due("the run stays", house.x.step(-1, 0), 1);
        House.due("its line", house.x.step(0, 2), 1);
    }

    private static void rewriteNoneSuch() {
        House.sentence("rewrite: BAD: no program, line, kind.");
        House none = new House();
        rewrite(none, 0, 0, House.BAD);
        none.read("cell");
        rewrite(none, 0, 0, House.BAD);
        House empty = House.of("thread A { }");
        rewrite(empty, 1, 0, House.BAD);
        House house = House.of("thread A { fence; fence; }");
        house.x.explore(0, false);
        for (int other : OTHERS) {
            rewrite(house, 0, other, House.BAD);
            rewrite(house, 1, other, House.BAD);
            rewrite(house, 2, other, House.BAD);
            rewrite(house, other, 0, House.BAD);
        }
        rewrite(house, 0, 2, House.BAD);
        rewrite(house, 1, 2, House.BAD);
        rewrite(house, 3, 0, House.BAD);
        sound(house, 0, House.NONE);
        House.due("what was explored stays", house.x.explored(0), 3);
    }

    private static void leftOutAlready() {
        House.sentence("BAD: line (also one that was left out)");
        House house = House.of("cell x; thread A { r = x; s = x; t = x; }");
        rewrite(house, 1, 1, 1);
        for (int kind = 0; kind < 3; kind++) {
            rewrite(house, kind, 1, House.BAD);
        }
        rewrite(house, 2, 2, 1);
        rewrite(house, 1, 0, 1);
        rewrite(house, 1, 2, 1);
        for (int line = 0; line < 3; line++) {
            rewrite(house, 1, line, House.BAD);
        }
        House.due("drop", house.x.drop(), 1);
        rewrite(house, 1, 1, 1);
    }

    private static void goneByRewrite() {
        House.sentence("1 (what was explored of a rewritten program, a run of it are gone)");
        House house = House.of("cell x; thread A { x = 1; x = 2; x = 3; }");
        rewrite(house, 0, 0, 1);
        sound(house, 1, 1);
        House.due("replay", house.x.replay(1), 2);
        rewrite(house, 0, 0, 1);
        House.due("explored", house.x.explored(0), House.BAD);
        House.due("outcome", house.x.outcome(0, 0), House.BAD);
        House.due("ready", house.x.ready(0), House.BAD);
        House.due("step", house.x.step(-1, 0), House.BAD);
        House.due("judge", house.law("always 1"), House.BAD);
        house.x.end(0);
        // what was explored of the program, a run of it stay
        house.x.explore(0, false);
        house.x.replay(2);
        rewrite(house, 1, 1, 1);
        House.due("explored", house.x.explored(0), 4);
        House.due("step", house.x.step(-1, 0), 2);
        // of the rewritten one explored, of the program the run
        sound(house, 0, 0);
        house.begin(0, 0);
        rewrite(house, 1, 2, 1);
        House.due("explored", house.x.explored(0), House.BAD);
        House.due("step", house.x.step(-1, 0), 1);
        // of the program explored, of the rewritten one the run
        sound(house, 0, 0);
        house.x.replay(1);
        house.x.explore(0, false);
        House.due("the run goes on", house.x.step(-1, 0), 1);
        rewrite(house, 1, 0, 1);
        House.due("explored", house.x.explored(0), 4);
        House.due("step", house.x.step(-1, 0), House.BAD);
        // a run of the rewritten one, and then one of the program, by begin() and by replay()
        House again = House.of("cell x; thread A { x = 1; x = 2; x = 3; }");
        for (int i = 0; i < 2; i++) {
            rewrite(again, 0, 0, 1);
            sound(again, 0, 1);
            again.x.replay(1);
            if (i == 0) {
                again.begin(0, 0);
            } else {
                again.x.explore(0, false);
                again.x.replay(1);
            }
            rewrite(again, 0, 0, 1);
            House.due("the run goes on", again.x.step(-1, 0), 1);
            sound(again, 0, 0);
            House.due("drop", again.x.drop(), 1);
            House.due("the run goes on", again.x.step(-1, 0), 1);
        }
    }

    private static void dropNone() {
        House.sentence("drop: 1; 0: there was none.");
        House none = new House();
        House.due("drop without a program", none.x.drop(), 0);
        House house = House.of("thread A { fence; fence; }");
        House.due("drop", house.x.drop(), 0);
        rewrite(house, 0, 1, 0);
        House.due("drop", house.x.drop(), 0);
        rewrite(house, 0, 0, 1);
        House.due("drop", house.x.drop(), 1);
        House.due("drop", house.x.drop(), 0);
        rewrite(house, 0, 0, 1);
        house.read("thread A { fence; fence; }");
        House.due("drop behind program()", house.x.drop(), 0);
    }

    private static void goneByDrop() {
        House.sentence("The rewritten program is dropped (what was explored of it, a run of it are gone)");
        House house = House.of("cell x; thread A { x = 1; x = 2; x = 3; }");
        rewrite(house, 0, 0, 1);
        sound(house, 0, 1);
        house.x.replay(1);
        House.due("drop", house.x.drop(), 1);
        House.due("explored", house.x.explored(0), House.BAD);
        House.due("step", house.x.step(-1, 0), House.BAD);
        sound(house, 0, House.NONE);
        rewrite(house, 0, 0, 1);
        house.x.explore(0, true);
        house.begin(2, 0);
        House.due("drop", house.x.drop(), 1);
        House.due("explored", house.x.explored(0), 4);
        House.due("step", house.x.step(-1, 0), 1);
        // a drop() of nothing takes nothing away
        House.due("drop", house.x.drop(), 0);
        House.due("explored", house.x.explored(0), 4);
        House.due("step", house.x.step(-1, 0), 1);
    }

    private static void linesStayAsTheyWere() {
        House.sentence("Numbers of lines stay as they were.");
        House house = House.of("cell x; thread A { fence; x = 1; halt; } thread B { x = 2; }");
        rewrite(house, 1, 0, 1);
        sound(house, 0, 1);
        House.due("race", house.x.race(0, 0), 1);
        House.due("race", house.x.race(0, 1), 3);
        house.x.replay(0);
        house.thread(0, 1, 1, 0);
        house.thread(1, 1, 3, 0);
        house.turns(10, 0);
        House.due("line", house.x.step(0, 2), 3);
        House.due("line", house.x.step(1, 2), 1);
        House.due("race of the run", house.x.runRace(-1, 0), 1);
    }

    private static void programStaysAsItWas() {
        House.sentence("begin(), explore(), line(), count() go by the program, whether it was rewritten or not.");
        House house = House.of("cell x; thread A { a = x; b = x; x = 1 + 1; }");
        rewrite(house, 2, 1, 1);
        rewrite(house, 1, 2, 1);
        rewrite(house, 0, 0, 1);
        int[] kinds = {1, 1, 2};
        for (int i = 0; i < 3; i++) {
            House.due("kind of line " + i, house.x.line(i, 0), kinds[i]);
            House.due("cell of line " + i, house.x.line(i, 2), 0);
        }
        House.due("lines", house.x.count(6), 3);
        House.due("nodes", house.x.count(7), 3);
        House.due("begin", house.x.begin(0), 1);
        house.thread(0, 1, 0, 0);
        House.due("explore", house.x.explore(0, false), 4);
        House.due("x", house.x.outcomeCell(0, 0), 2);
        sound(house, 0, 0);
        House.due("states of the rewritten one", house.x.explored(0), 3);
        House.due("explore", house.x.explore(0, false), 4);
        house.begin(0, 0, 0);
        House.due("line", house.x.step(1, 2), 1);
    }

    private static void soundByAWay() {
        House.sentence("SOUND, if each of its OUTCOMES by a way is one of the program's by that way");
        House house = House.of("cell x; cell y; thread A { x = 1; y = 1; } thread B { p = y; q = x; }");
        rewrite(house, 0, 0, 1);
        sound(house, 0, 0);
        sound(house, 1, 0);
        sound(house, 2, 1);
        House fences = House.of("cell x; cell y; thread A { x = 1; fence; p = y; } thread B { y = 1; fence; q = x; }");
        rewrite(fences, 1, 1, 1);
        sound(fences, 0, 1);
        sound(fences, 1, 0);
        // fewer outcomes are sound; the way back is not
        House fewer = House.of("cell x; thread A { a = x; b = x; } thread B { x = 1; }");
        rewrite(fewer, 2, 1, 1);
        for (int way = 0; way < 3; way++) {
            sound(fewer, way, 1);
            House.due("outcomes", fewer.x.explored(3), 2);
            House.due("way", fewer.x.explored(4), way);
        }
        // the first state, which is no end, has what the rewritten one ends with
        House first = House.of("thread A { r = 1; join A; }");
        rewrite(first, 1, 0, 1);
        sound(first, 0, 0);
        // no outcome at all
        House loop = House.of("thread A { fence; } thread B { while 1 { } }");
        rewrite(loop, 1, 0, 1);
        sound(loop, 0, 1);
        House.due("outcomes", loop.x.explored(3), 0);
    }

    private static void soundSortsMemoryLocals() {
        House.sentence("OUTCOMES: sort, memory, all LOCALS");
        String[] programs = {"thread A { join A; assert 0; }", "cell x; thread A { x = 1; x = 2; }", "thread A { r = 1; r = 2; }", "thread A { halt; assert 0; }"};
        for (String program : programs) {
            House house = House.of(program);
            rewrite(house, 0, 0, 1);
            for (int way = 0; way < 3; way++) {
                sound(house, way, 0);
                House.due("gained", house.x.gained(), 0);
            }
        }
        // why a thread went wrong, and who holds a lock, are no outcome's
        House why = House.of("lock l; thread A { unlock l; assert 0; }");
        rewrite(why, 0, 0, 1);
        sound(why, 0, 1);
        House locks = House.of("lock k; lock l; thread A { lock k; halt; lock l; }");
        rewrite(locks, 1, 0, 1);
        rewrite(locks, 0, 1, 1);
        sound(locks, 0, 1);
    }

    private static void soundByName() {
        House.sentence("(LOCALS by name; both without FEWER)");
        // in the rewritten one q stands first
        House house = House.of("cell x; thread A { p = 1; q = 2; x = p; }");
        rewrite(house, 0, 0, 1);
        for (int way = 0; way < 3; way++) {
            sound(house, way, 1);
            House.due("p", house.x.outcomeLocal(0, 0, 0), 1);
            House.due("q", house.x.outcomeLocal(0, 0, 1), 2);
        }
        House threads = House.of("thread A { r = 1; s = 0; } thread B { s = 1; r = 0; }");
        rewrite(threads, 0, 0, 1);
        sound(threads, 0, 1);
        // one that stands nowhere any more is 0 still
        House gone = House.of("thread A { p = 0; q = 2; }");
        rewrite(gone, 1, 0, 1);
        sound(gone, 0, 1);
        House.due("p", gone.x.outcomeLocal(0, 0, 0), 0);
        House.due("q", gone.x.outcomeLocal(0, 0, 1), 2);
        House.due("none behind", gone.x.outcomeLocal(0, 0, 2), House.NO_VALUE);
        House set = House.of("thread A { p = 1; q = 2; }");
        rewrite(set, 1, 0, 1);
        sound(set, 0, 0);
    }

    private static void soundWithoutFewer() {
        House.sentence("both without FEWER");
        House house = House.of("cell x; thread A { fence; x = 1; } thread B { x = 2; r = 1; }");
        House.due("fewer", house.x.explore(0, true) < house.x.explore(0, false) ? 1 : 0, 1);
        house.x.explore(0, true);
        rewrite(house, 1, 0, 1);
        sound(house, 0, 1);
        House.due("fewer", house.x.explored(5), 0);
        House.due("must may be asked", house.law("must ended B"), 1);
        House.due("outcomes", house.x.explored(3), 2);
    }

    private static void soundNone() {
        House.sentence("NONE (of a way that there is): there is none.");
        House none = new House();
        House house = House.of("thread A { fence; fence; }");
        house.x.explore(1, true);
        for (int way = 0; way < 3; way++) {
            sound(none, way, House.NONE);
            sound(house, way, House.NONE);
            House.due("what was explored stays", house.x.explored(4), 1);
        }
        rewrite(house, 0, 0, 1);
        House.due("drop", house.x.drop(), 1);
        sound(house, 2, House.NONE);
        rewrite(house, 0, 0, 1);
        house.read("cell");
        sound(house, 0, House.NONE);
    }

    private static void soundNoWay() {
        House.sentence("sound: BAD: no way.");
        House none = new House();
        House house = House.of("thread A { fence; fence; }");
        rewrite(house, 0, 0, 1);
        sound(house, 1, 1);
        int[] ways = {-1, 3, 4, 100, Integer.MIN_VALUE, Integer.MAX_VALUE};
        for (int way : ways) {
            sound(none, way, House.BAD);
            sound(house, way, House.BAD);
            House.due("what was explored stays", house.x.explored(4), 1);
        }
    }

    /** One thread of so many steps, one behind the other, the last lines ahead. */
    private static String chain(String ahead, int outer, int inner, int more) {
        return "thread A { " + ahead + "while p < " + outer + " { q = 0; while q < " + inner + " { q = q + 1; } p = p + 1; } " + House.times(more, "fence; ") + "}";
    }

    private static void nothingIsExplored(House house) {
        House.due("explored", house.x.explored(0), House.BAD);
        House.due("outcome", house.x.outcome(0, 0), House.BAD);
        House.due("replay", house.x.replay(0), House.BAD);
        House.due("race", house.x.race(-1, 0), House.BAD);
        House.due("judge", house.x.judge(), House.BAD);
    }

    private static void soundStates() {
        House.sentence("FULL: one of both has too many STATES or STEPS (as explore()): nothing is explored then.");
        House fits = House.of(chain("", 98, 100, 6));
        rewrite(fits, 0, 6, 1);
        for (int way = 0; way < 2; way++) {
            sound(fits, way, 1);
            House.due("states", fits.x.explored(0), 20000);
        }
        sound(fits, 2, House.FULL);
        nothingIsExplored(fits);
        // the program has one too many, the rewritten one not
        House over = House.of(chain("", 98, 100, 7));
        over.x.explore(0, false);
        rewrite(over, 1, 6, 1);
        for (int way = 0; way < 2; way++) {
            sound(over, way, House.FULL);
            nothingIsExplored(over);
        }
        // the rewritten one has too many: without its first line it does not halt
        House grows = House.of(chain("halt; ", 98, 100, 7));
        grows.x.explore(0, false);
        rewrite(grows, 1, 0, 1);
        sound(grows, 0, House.FULL);
        nothingIsExplored(grows);
        House.due("explore", grows.x.explore(0, false), 2);
        House grown = House.of(chain("halt; ", 98, 100, 6));
        rewrite(grown, 1, 0, 1);
        sound(grown, 0, 0);
        House.due("states", grown.x.explored(0), 20000);
    }

    private static void soundViewStates() {
        House.sentence("(as explore(): of way 2 above 6,000)");
        House fits = House.of(chain("", 26, 113, 18));
        rewrite(fits, 0, 5, 1);
        sound(fits, 2, 1);
        House.due("states", fits.x.explored(0), 6000);
        House over = House.of(chain("", 26, 113, 19));
        rewrite(over, 1, 5, 1);
        sound(over, 2, House.FULL);
        nothingIsExplored(over);
        sound(over, 0, 1);
        House grows = House.of(chain("halt; ", 26, 113, 19));
        rewrite(grows, 1, 0, 1);
        sound(grows, 2, House.FULL);
        nothingIsExplored(grows);
    }

    /** B waits till A has stored all, and loads one of 4, 5, 5, 5, 8 writes each then: 4,000 outcomes. */
    private static String loads(String more, String last) {
        return "cell a; cell b; cell c; cell d; cell e; cell f; thread A { assert 1; " + stores("a", 3) + stores("b", 4) + stores("c", 4) + stores("d", 4)
            + stores("e", 7) + more + "f = " + last + "; } thread B { r = f; while r == 0 { r = f; } if r == 1 { halt; }"
            + " s = a; t = b; u = c; v = d; w = e; }";
    }

    private static String stores(String cell, int many) {
        StringBuilder text = new StringBuilder();
        for (int i = 1; i <= many; i++) {
            text.append(cell).append(" = ").append(i).append("; ");
        }
        return text.toString();
    }

    private static void soundOutcomes() {
        House.sentence("FULL: or the program more than 4,000 OUTCOMES: nothing is explored then.");
        House fits = House.of(loads("", "2"));
        House.due("states", fits.x.explore(2, false) > 4000 ? 1 : 0, 1);
        House.due("outcomes", fits.x.explored(3), 4000);
        rewrite(fits, 1, 0, 1);
        sound(fits, 2, 1);
        House.due("outcomes", fits.x.explored(3), 4000);
        sound(fits, 0, 1);
        // B may see a 1 ahead of the 2, and halts then: one outcome more
        House over = House.of(loads("f = 1; ", "2"));
        House.due("states", over.x.explore(2, false) > 4001 ? 1 : 0, 1);
        House.due("outcomes", over.x.explored(3), 4001);
        rewrite(over, 1, 0, 1);
        sound(over, 2, House.FULL);
        nothingIsExplored(over);
        sound(over, 0, 1);
        // the rewritten one may have as many as it has
        House grows = House.of(loads("f = 1; ", "2").replace("s = a; t = b;", "halt; s = a; t = b;"));
        House.due("states", grows.x.explore(2, false) > 0 ? 1 : 0, 1);
        House.due("outcomes", grows.x.explored(3), 2);
        int halt = -1;
        for (int i = 0; i < grows.x.count(6); i++) {
            halt = grows.x.line(i, 0) == 13 ? i : halt;
        }
        rewrite(grows, 1, halt, 1);
        sound(grows, 2, 0);
        House.due("outcomes", grows.x.explored(3), 4001);
    }

    private static void soundExplores() {
        House.sentence("What was explored is then what the rewritten one has (its lines' numbers are the program's).");
        House house = House.of("cell x; lock k; lock l; thread A { lock k; x = 1; lock l; unlock l; unlock k; } thread B { x = 2; }");
        house.x.explore(1, true);
        rewrite(house, 1, 0, 1);
        rewrite(house, 1, 4, 1);
        sound(house, 0, 1);
        House.due("way", house.x.explored(4), 0);
        House.due("fewer", house.x.explored(5), 0);
        House.due("states", house.x.explored(0), 5 + 2 * 3);
        House.due("guard", house.x.guard(0), 0);
        House.due("order", house.x.order(0, 1), 0);
        House.due("race", house.x.race(0, 0), 1);
        House.due("other line", house.x.race(0, 1), 5);
        House.due("judge", house.law("never held k == 0"), 1);
        House.due("replay", house.x.replay(1), 2);
        House.due("line", house.x.step(0, 2), 1);
        House.due("next line", house.x.thread(0, 1), 2);
        sound(house, 2, 1);
        House.due("way", house.x.explored(4), 2);
        // line 0 takes its lock behind line 1 then
        House swapped = House.of("lock k; lock l; thread A { lock k; lock l; } thread B { lock k; lock l; }");
        rewrite(swapped, 0, 0, 1);
        sound(swapped, 0, 1);
        House.due("order", swapped.x.order(0, 1), 1);
        House.due("order", swapped.x.order(1, 0), 1);
        House.due("rings", swapped.x.ring(0), 1);
        House.due("crossed", swapped.x.ring(5), 1);
        swapped.x.explore(0, false);
        House.due("rings", swapped.x.ring(0), 0);
        // of the program again
        house.x.explore(0, false);
        House.due("guard", house.x.guard(0), 0);
        House.due("order", house.x.order(0, 1), 1);
        House.due("run of the rewritten one", house.x.step(0, 2), 1);
        house.x.replay(1);
        House.due("line", house.x.step(0, 2), 0);
    }

    private static void gainedTheLeast() {
        House.sentence("The least OUTCOME that the program has not, as it was told by the last sound() that answered 0");
        House house = House.of("cell x; thread A { fence; r = x; r = 0; } thread B { x = 1; s = 1; }");
        rewrite(house, 1, 2, 1);
        sound(house, 0, 0);
        int least = house.x.gained();
        // r is 1 or 0: the one with 1 is new
        House.due("r", house.x.outcomeLocal(least, 0, 0), 1);
        for (int i = 0; i < least; i++) {
            House.due("r of a lesser one", house.x.outcomeLocal(i, 0, 0), 0);
        }
        // of several the least
        House many = House.of("cell x; thread A { add x, 1 into p; p = 9; } thread B { add x, 1 into q; } thread C { add x, 1 into r; }");
        rewrite(many, 1, 1, 1);
        sound(many, 0, 0);
        House.due("gained", many.x.gained(), 0);
        // y is loaded behind x then: s is 1, r is 0
        House swapped = House.of("cell x; cell y; thread A { s = y; r = x; } thread B { x = 1; y = 1; }");
        rewrite(swapped, 0, 0, 1);
        sound(swapped, 0, 0);
        House.due("s", swapped.x.outcomeLocal(swapped.x.gained(), 0, 0), 1);
        House.due("r", swapped.x.outcomeLocal(swapped.x.gained(), 0, 1), 0);
    }

    private static void gainedStays() {
        House.sentence("(whatever was asked since, but program())");
        House house = House.of("thread A { r = 1; s = r; } thread B { while 0 { } }");
        rewrite(house, 0, 0, 1);
        sound(house, 1, 0);
        int gained = house.x.gained();
        House.due("gained", gained, 0);
        sound(house, 7, House.BAD);
        House.due("gained", house.x.gained(), gained);
        house.x.explore(2, true);
        house.x.begin(0);
        House.due("gained", house.x.gained(), gained);
        rewrite(house, 0, 1, 1);
        House.due("gained", house.x.gained(), gained);
        sound(house, 0, 1);
        House.due("gained", house.x.gained(), gained);
        house.x.drop();
        House.due("gained", house.x.gained(), gained);
        sound(house, 0, House.NONE);
        House.due("gained", house.x.gained(), gained);
        rewrite(house, 1, 1, 1);
        sound(house, 0, 0);
        House.due("gained", house.x.gained(), 0);
        house.read("thread A { r = 1; s = r; }");
        House.due("gained", house.x.gained(), House.NONE);
        rewrite(house, 0, 0, 1);
        sound(house, 0, 0);
        House.due("gained", house.x.gained(), 0);
        house.read("cell");
        House.due("gained behind a fault", house.x.gained(), House.NONE);
    }

    private static void gainedNone() {
        House.sentence("gained: NONE: none such.");
        House none = new House();
        House.due("gained of a new object", none.x.gained(), House.NONE);
        House house = House.of("thread A { fence; fence; }");
        House.due("gained", house.x.gained(), House.NONE);
        rewrite(house, 0, 0, 1);
        House.due("gained", house.x.gained(), House.NONE);
        for (int way = 0; way < 3; way++) {
            sound(house, way, 1);
            House.due("gained", house.x.gained(), House.NONE);
        }
    }
}
