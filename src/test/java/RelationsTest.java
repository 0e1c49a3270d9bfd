import java.util.Random;
import java.util.Set;
import java.util.TreeSet;

/**
 * Promises 7 to 37: what must hold between the answers for any program, whatever each of them is. No answer is told
 * here, so no model of the document is needed; the programs are drawn, always the same ones.
 */
public final class RelationsTest {
    private static final int PROGRAMS = 250;
    /** So that no object has more than 512 calls. */
    private static final int MOST_OUTCOMES = 12, MOST_RACES = 12, ENDS = 3;
    private static final String[] CELLS = {"x", "y", "z"}, LOCKS = {"l", "m"}, THREADS = {"A", "B", "C"};
    private static final String[] FACTS = {"x == 1", "x > 0", "ended A", "ended B", "wrong A", "waits A", "waits B", "stuck", "x == 0",
        "ended A & ended B", "!stuck", "x != 0 | ended A"};
    private static final String[] OPERATORS = {"+", "-", "*", "==", "!=", "<", ">", "&", "|"};
    /** What the first two threads may begin with, so that the ways of memory come apart more often. */
    private static final String[][] BEGINNINGS = {{"x = 1; r = y;", "y = 1; r = x;"}, {"x = 1; y = 1;", "r = y; s = x;"},
        {"x = 1; x = 2; y = 1;", "s = y; if s { r = x; }"}, {"x = 1; fence; r = y;", "y = 1; r = x;"}};
    private static final int MOST_WRITES = 8;

    private final Random random;
    private final int cells, locks, threads;
    private final boolean loops;
    private final String program;
    private House house;
    private TurnHouse x;
    private int budget;

    private RelationsTest(int seed) {
        random = new Random(seed * 7919L + 13);
        cells = 1 + draw(3);
        locks = draw(3);
        threads = 2 + draw(2);
        loops = draw(4) == 0;
        program = drawProgram();
    }

    public static void main(String[] args) {
        int differing = 0;
        for (int seed = 0; seed < PROGRAMS; seed++) {
            differing += new RelationsTest(seed).check() ? 1 : 0;
        }
        // else the programs would be too tame to tell anything of the ways
        House.due("programs whose outcomes differ by ways, at least 20", Math.min(differing, 20), 20);
        House.finish();
    }

    // ---- programs

    private int draw(int below) {
        return random.nextInt(below);
    }

    private String drawProgram() {
        StringBuilder text = new StringBuilder();
        int volatiles = draw(4);
        for (int i = 0; i < cells; i++) {
            boolean isVolatile = volatiles == 0 || volatiles == 1 && draw(2) == 0;
            text.append("cell ").append(CELLS[i]).append(isVolatile ? " volatile" : "").append(draw(4) == 0 ? " = " + draw(3) : "").append("; ");
        }
        for (int i = 0; i < locks; i++) {
            text.append("lock ").append(LOCKS[i]).append("; ");
        }
        String[] beginnings = cells > 1 && draw(2) == 0 ? BEGINNINGS[draw(BEGINNINGS.length)] : new String[0];
        for (int t = 0; t < threads; t++) {
            budget = threads == 2 && beginnings.length == 0 ? 8 : 4;
            text.append("thread ").append(THREADS[t]).append(t > 0 && draw(4) == 0 ? " later { " : " { ")
                .append(t < beginnings.length ? beginnings[t] + " " : "").append(block(0).substring(2)).append(' ');
        }
        return text.toString();
    }

    private String block(int depth) {
        StringBuilder text = new StringBuilder("{ ");
        int many = 1 + draw(depth == 0 ? 5 : 2);
        for (int i = 0; i < many && budget > 0; i++) {
            text.append(statement(depth)).append(' ');
        }
        return text.append("}").toString();
    }

    private String statement(int depth) {
        budget--;
        int kind = draw(34);
        if (kind < 6) {
            return cell() + " = " + (draw(3) == 0 ? exp(1) : 1 + draw(2)) + ";";
        } else if (kind >= 13 && kind < 15) {
            return local() + " = " + exp(2) + ";";
        } else if (kind >= 15 && kind < 17) {
            return "cas " + cell() + ", " + exp(0) + ", " + exp(0) + into();
        } else if (kind >= 17 && kind < 19) {
            return "add " + cell() + ", " + (1 + draw(2)) + into();
        } else if (kind >= 19 && kind < 22) {
            String[] some = {"fence;", "assert " + exp(1) + ";", "halt;", "r = 1;"};
            return some[draw(4)];
        } else if (kind >= 22 && kind < 25 && depth < 2) {
            return kind == 24 && loops ? "while " + exp(1) + " " + block(depth + 1)
                : "if " + exp(1) + " " + block(depth + 1) + (draw(2) == 0 ? " else " + block(depth + 1) : "");
        } else if (kind >= 25 && kind < 27) {
            return (kind == 25 ? "start " : "join ") + THREADS[draw(threads)] + ";";
        } else if (kind >= 27 && locks > 0) {
            return withLock(kind, depth);
        }
        return local() + " = " + cell() + ";";
    }

    private String withLock(int kind, int depth) {
        String lock = LOCKS[draw(locks)] + "; ";
        if (kind < 30) {
            StringBuilder text = new StringBuilder("lock " + lock);
            int many = draw(3);
            for (int i = 0; i < many; i++) {
                text.append(statement(depth)).append(' ');
            }
            return text + (draw(6) == 0 ? "" : "unlock " + lock);
        }
        String[] some = {"lock " + lock, "unlock " + lock, "lock " + lock + "wait " + lock + "unlock " + lock,
            "lock " + lock + "wake " + lock + "unlock " + lock, "lock " + lock + "wakeall " + lock + "unlock " + lock};
        return some[draw(some.length)];
    }

    private String cell() {
        return CELLS[draw(cells)];
    }

    private String local() {
        return draw(2) == 0 ? "r" : "s";
    }

    private String into() {
        return draw(2) == 0 ? " into " + local() + ";" : ";";
    }

    private String exp(int depth) {
        int kind = draw(depth <= 0 ? 3 : 7);
        if (kind == 0) {
            return String.valueOf(draw(3));
        } else if (kind < 4) {
            return (kind == 3 ? "!" : "") + local();
        }
        return "(" + exp(depth - 1) + " " + OPERATORS[draw(OPERATORS.length)] + " " + exp(depth - 1) + ")";
    }

    // ---- what holds for each of them

    /** Whether the outcomes differ by ways. */
    private boolean check() {
        int[] states = new int[3];
        Set<?>[] outcomes = new Set<?>[3];
        boolean tame = false;
        for (int way = 0; way < 3; way++) {
            states[way] = explore(way, false);
            if (states[way] < 0 || x.explored(3) > MOST_OUTCOMES) {
                return false;
            }
            outcomes[way] = outcomes();
            if (way == 0) {
                tame = x.race(-1, 0) == 0;
                chances();
            }
            laws();
            explore(way, false);
            ends();
            explore(way, false);
            races();
            rings();
            fewer(way, states[way], outcomes[way]);
        }
        ways(states, outcomes, tame);
        rewritings(outcomes);
        swappedTwice(outcomes[0]);
        return !outcomes[0].equals(outcomes[1]) || !outcomes[0].equals(outcomes[2]);
    }

    private void read() {
        house = House.of(program);
        x = house.x;
    }

    /** All turns of the program, by a new object. */
    private int explore(int way, boolean fewer) {
        read();
        return x.explore(way, fewer);
    }

    private void holds(String what, boolean so) {
        House.due(what + " of " + program, so ? 1 : 0, 1);
    }

    private Set<String> outcomes() {
        Set<String> all = new TreeSet<>();
        for (int i = 0; i < x.explored(3); i++) {
            all.add(outcome(i));
        }
        holds("OUTCOMES are unlike", all.size() == x.explored(3));
        return all;
    }

    private String outcome(int i) {
        StringBuilder text = new StringBuilder("sort " + x.outcome(i, 0));
        for (int c = 0; c < cells; c++) {
            text.append(" ").append(x.outcomeCell(i, c));
        }
        for (int t = 0; t < threads; t++) {
            for (int k = 0; x.outcomeLocal(i, t, k) != House.NO_VALUE; k++) {
                text.append(" ").append(x.outcomeLocal(i, t, k));
            }
        }
        return text.toString();
    }

    /** What turns of the threads can't change is left out by FEWER, and nothing else. */
    private void fewer(int way, int states, Set<?> outcomes) {
        int fewer = explore(way, true);
        holds("FEWER are not more", fewer >= 0 && fewer <= states);
        holds("OUTCOMES of FEWER by way " + way, outcomes().equals(outcomes));
    }

    /** What can come by one memory can come by each; of programs without a RACE nothing else can. */
    private void ways(int[] states, Set<?>[] outcomes, boolean tame) {
        holds("OUTCOMES by way 0 are some by way 1", outcomes[1].containsAll(outcomes[0]));
        holds("no RACE, and the same OUTCOMES by way 1", !tame || outcomes[1].equals(outcomes[0]));
        if (!loops && writesAreFew()) {
            holds("OUTCOMES by way 0 are some by way 2", outcomes[2].containsAll(outcomes[0]));
            holds("no RACE, and the same OUTCOMES by way 2", !tame || outcomes[2].equals(outcomes[0]));
        }
        if (program.split("volatile").length > cells) {
            holds("all cells are volatile, and no STATE is another one by way 1", states[0] == states[1]);
        }
    }

    private boolean writesAreFew() {
        int[] writes = new int[cells];
        for (int i = 0; i < x.count(6); i++) {
            if (x.line(i, 0) >= 2 && x.line(i, 0) <= 4) {
                writes[x.line(i, 2)]++;
                if (writes[x.line(i, 2)] > MOST_WRITES) {
                    return false;
                }
            }
        }
        return true;
    }

    /** Each run without a loop ENDS, with one OUTCOME. */
    private void chances() {
        for (int d = 1; d <= 3 && !loops; d++) {
            int k = 1 + draw(12);
            int sum = 0;
            for (int i = 0; i < x.explored(3); i++) {
                sum += x.chances(i, d, k);
            }
            int rows = d == 1 ? 1 : d == 2 ? k : k * k;
            House.due("all chances by " + d + ", " + k + " of " + program, sum, (threads == 2 ? 2 : 6) * rows);
        }
    }

    private boolean judge(String law) {
        int answer = house.law(law);
        holds("'" + law + "' is judged", answer == 0 || answer == 1);
        return answer == 1;
    }

    private void laws() {
        String fact = FACTS[draw(FACTS.length)];
        String other = FACTS[draw(FACTS.length)];
        boolean always = judge("always " + fact);
        int lacking = x.where();
        holds("always, may !", always != judge("may !(" + fact + ")") && lacking == x.where());
        boolean never = judge("never " + fact);
        int shown = x.where();
        holds("never, may", never != judge("may " + fact) && shown == x.where());
        boolean must = judge("must " + fact);
        boolean fairMust = judge("fair must " + fact);
        holds("must, fair must, may", (!must || fairMust) && (!fairMust || !never));
        holds("always, must", !always || must);
        boolean leads = judge(fact + " leads " + other);
        holds("leads, fair leads", !leads || judge("fair " + fact + " leads " + other));
        holds("never leads to anything", !never || leads);
        holds("leads to itself", judge(other + " leads " + other));
        boolean allLead = judge("1 leads " + other);
        holds("1 leads, must, leads", !allLead || leads && judge("must " + other));
        holds("must and leads, must", !must || !leads || judge("must " + other));
    }

    /** A replayed end is what its OUTCOME tells; what is before what is an order of the STEPS. */
    private void ends() {
        for (int n = 0; n < ENDS && n < x.explored(3); n++) {
            int i = draw(x.explored(3));
            int state = x.outcome(i, 1);
            int length = x.schedule(state, -1);
            if (length > 200) {
                continue;
            }
            House.due("ready behind the end of " + program, x.replay(state), 0);
            House.due("steps of " + program, x.step(-1, 0), length);
            holds("SWITCHES are fewer than STEPS", x.outcome(i, 2) < Math.max(length, 1));
            for (int c = 0; c < cells; c++) {
                House.due("cell of " + program, x.cell(c), x.outcomeCell(i, c));
            }
            for (int t = 0; t < threads; t++) {
                for (int k = 0; k < 6; k++) {
                    House.due("local of " + program, x.local(t, k), x.outcomeLocal(i, t, k));
                }
            }
            order(length);
        }
    }

    private void order(int length) {
        for (int n = 0; n < 20 && length > 2; n++) {
            int a = draw(length), b = draw(length), c = draw(length);
            holds("BEFORE goes on", x.before(a, b) == 0 || a < b && (x.before(b, c) == 0 || x.before(a, c) == 1));
        }
    }

    /** In the least STATE of a RACE both lines come next, and neither is before the other one. */
    private void races() {
        for (int k = 0; k < Math.min(x.race(-1, 0), MOST_RACES); k++) {
            int one = x.race(k, 0), other = x.race(k, 1), state = x.race(k, 2);
            int t = x.line(one, 1), u = x.line(other, 1);
            int length = x.schedule(state, -1);
            if (length > 198) {
                continue;
            }
            x.replay(state);
            holds("lines of a RACE", one < other && t != u && x.thread(t, 1) == one && x.thread(u, 1) == other);
            holds("the first is READY", x.turn(t, 0) >= 0);
            // the other one needs no longer be READY: what is before them is the same all the same
            if (x.turn(u, 0) >= 0 && x.thread(t, 0) != 5 && x.thread(u, 0) != 5) {
                House.due("before, of a RACE of " + program, x.before(length, length + 1), 0);
                int races = x.runRace(-1, 0);
                holds("the RACE is the last of the run", races > 0 && x.runRace(races - 1, 0) <= length && x.runRace(races - 1, 1) == length + 1);
            }
        }
    }

    private void rings() {
        if (x.ring(0) > 0 && x.schedule(x.ring(1), -1) <= 200) {
            House.due("ready in a RING of " + program, x.replay(x.ring(1)), 0);
            int lock = x.line(x.thread(x.ring(2), 1), 2);
            holds("another thread holds it", x.held(lock, 0) >= 0 && x.held(lock, 0) != x.ring(2));
        }
    }

    /** SOUND by what the OUTCOMES are. */
    private void rewritings(Set<?>[] outcomes) {
        int[] kinds = new int[4], lines = new int[4];
        for (int n = 0; n < 4; n++) {
            kinds[n] = draw(3);
            lines[n] = draw(x.count(6));
        }
        for (int way = 0; way < 3; way++) {
            read();
            for (int n = 0; n < 4; n++) {
                x.rewrite(kinds[n], lines[n]);
            }
            int sound = x.sound(way);
            if (sound >= 0 && x.explored(3) <= MOST_OUTCOMES) {
                House.due("sound(" + way + ") of " + program, sound, outcomes[way].containsAll(outcomes()) ? 1 : 0);
                House.due("gained() of " + program, x.gained(), sound == 1 ? House.NONE : firstBeyond(outcomes[way]));
            }
        }
    }

    private int firstBeyond(Set<?> outcomes) {
        int i = 0;
        while (outcomes.contains(outcome(i))) {
            i++;
        }
        return i;
    }

    /** A line that changes places with the next one, and then that one with it. */
    private void swappedTwice(Set<?> outcomes) {
        read();
        int line = draw(x.count(6));
        int next = line + 1;
        while (x.line(next, 4) > x.line(line, 4)) {
            next++;
        }
        // behind an if its other block may stand, whose lines are none of its own block
        if (x.line(line, 0) != 17 && x.rewrite(0, line) == 1) {
            House.due("the other way round, of " + program, x.rewrite(0, next), 1);
            holds("two changes are none", x.sound(0) == 1 && outcomes().equals(outcomes));
        }
    }
}
