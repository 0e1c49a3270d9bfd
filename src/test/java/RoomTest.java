import java.lang.management.ManagementFactory;
import java.lang.reflect.Array;
import java.lang.reflect.Field;
import java.lang.reflect.Modifier;
import java.util.ArrayDeque;
import java.util.Collections;
import java.util.Deque;
import java.util.IdentityHashMap;
import java.util.Set;

/** All calls of one run live in one room: what an object is made of, and that its calls make nothing more. */
public final class RoomTest {
    private static final int MOST_OBJECTS = 1000, MOST_ELEMENTS = 2_000_000;
    /** What the machine itself may need beside the calls: a loaded class, a note of the measuring. */
    private static final int MOST_BYTES_MADE = 100_000;
    private static final String STATES_14641 = "thread A { " + House.times(10, "fence; ") + "} thread B { " + House.times(10, "fence; ")
        + "} thread C { " + House.times(10, "fence; ") + "} thread D { " + House.times(10, "fence; ") + "}";
    private static final String OF_MANY_VIEWS = "cell x; cell y; lock l; thread A { x = 1; x = 2; y = 1; fence; r = y; } thread B { y = 2; y = 3;"
        + " x = 3; r = x; s = y; } thread C { r = x; s = y; lock l; add x, 1 into t; unlock l; }";
    private static final String OF_CALLS = "thread A { call push 1; reply; call pop; reply 4; } thread B { call push 2; reply; call pop; reply 3; }"
        + " thread C { call push 3; reply; call pop; reply 2; } thread D { call push 4; reply; call pop; reply 1; }";

    private static final String[] PROGRAMS = {STATES_14641, OF_MANY_VIEWS, OF_CALLS};

    public static void main(String[] args) throws IllegalAccessException {
        int[] room = room(new TurnHouse());
        House.due("objects and arrays of one object above " + MOST_OBJECTS, Math.max(room[0], MOST_OBJECTS), MOST_OBJECTS);
        House.due("fields and elements of one object above " + MOST_ELEMENTS, Math.max(room[1], MOST_ELEMENTS), MOST_ELEMENTS);
        for (String program : PROGRAMS) {
            // once before it is measured, so that all classes are there
            dearCalls(new TurnHouse(), program);
            TurnHouse x = new TurnHouse();
            long made = dearCalls(x, program);
            House.due("bytes that the calls make above " + MOST_BYTES_MADE, (int) Math.max(made, MOST_BYTES_MADE), MOST_BYTES_MADE);
            House.due("objects and arrays behind all calls", room(x)[0], room[0]);
            House.due("fields and elements behind all calls", room(x)[1], room[1]);
        }
        House.finish();
    }

    // ---- what an object is made of

    private static int[] room(Object of) throws IllegalAccessException {
        Set<Object> seen = Collections.newSetFromMap(new IdentityHashMap<>());
        Deque<Object> open = new ArrayDeque<>();
        int elements = 0;
        add(of, seen, open);
        while (!open.isEmpty()) {
            Object one = open.pop();
            if (one.getClass().isArray()) {
                elements += Array.getLength(one);
                for (int i = 0; i < Array.getLength(one) && !one.getClass().getComponentType().isPrimitive(); i++) {
                    add(Array.get(one, i), seen, open);
                }
            } else {
                elements += addFields(one, seen, open);
            }
        }
        return new int[] {seen.size(), elements};
    }

    private static int addFields(Object of, Set<Object> seen, Deque<Object> open) throws IllegalAccessException {
        int fields = 0;
        for (Field field : of.getClass().getDeclaredFields()) {
            if (!Modifier.isStatic(field.getModifiers())) {
                fields++;
                field.setAccessible(true);
                if (!field.getType().isPrimitive()) {
                    add(field.get(of), seen, open);
                }
            }
        }
        return fields;
    }

    private static void add(Object one, Set<Object> seen, Deque<Object> open) {
        if (one != null && seen.add(one)) {
            open.push(one);
        }
    }

    // ---- what calls make

    /** Bytes that this thread has made so far. */
    private static long made() {
        return ((com.sun.management.ThreadMXBean) ManagementFactory.getThreadMXBean()).getCurrentThreadAllocatedBytes();
    }

    /** What the dearest calls make, of one object; feeding is left out, as its texts are the test's. */
    private static long dearCalls(TurnHouse x, String program) {
        read(x, program);
        long before = made();
        int fault = x.program();
        for (int way = 0; way < 3; way++) {
            tryAll(x, way);
            run(x, way, program.equals(OF_CALLS));
            rewrite(x, way);
        }
        long all = made() - before;
        House.due("program", fault, 0);
        read(x, "fair ended A leads stuck");
        before = made();
        int states = x.explore(0, false);
        int law = x.judge();
        all += made() - before;
        House.due("explored", states > 0 ? 1 : 0, 1);
        House.due("judged", law >= 0 ? 1 : 0, 1);
        return all;
    }

    private static void tryAll(TurnHouse x, int way) {
        int states = x.explore(way, false);
        x.explored(1);
        x.outcome(x.explored(3) - 1, 2);
        x.outcomeCell(0, 0);
        x.outcomeLocal(0, 0, 0);
        x.chances(0, 3, 12);
        x.schedule(states - 1, 0);
        x.replay(states - 1);
        x.race(-1, 0);
        x.race(0, 2);
        x.guard(0);
        x.ring(5);
        x.order(0, 0);
        x.where();
    }

    private static void run(TurnHouse x, int way, boolean apart) {
        x.begin(way);
        for (int n = 0; n < 40 && x.ready(0) >= 0; n++) {
            // the threads in turn, so that all calls of the run come at once
            int step = apart && x.ready(n % 4) >= 0 ? x.ready(n % 4) : x.ready(0);
            x.turn(step / 10, step % 10);
        }
        x.runRace(-1, 0);
        x.before(0, 1);
        x.seen(0, 0);
        for (int structure = 0; structure < 4; structure++) {
            x.linear(structure);
        }
        x.ordered(0);
    }

    private static void rewrite(TurnHouse x, int way) {
        x.rewrite(0, 0);
        x.sound(way);
        x.gained();
        x.drop();
    }

    private static void read(TurnHouse x, String text) {
        for (int from = 0; from < text.length(); from += 20) {
            int[] numbers = new int[5];
            for (int i = 0; i < 20; i++) {
                int sign = from + i < text.length() ? text.charAt(from + i) : ' ';
                numbers[i / 4] = numbers[i / 4] << 8 | sign;
            }
            x.feed(numbers[0], numbers[1], numbers[2], numbers[3], numbers[4]);
        }
    }
}
