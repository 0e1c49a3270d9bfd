/** Edges of section 8 and of promises 32 and 33: each test goes by one sentence of the document. */
public final class LawEdgesTest {
    private static final String NODES_399 = "1" + House.times(199, "*1");

    public static void main(String[] args) {
        formsOfLaws();
        lawsCutShort();
        factsOfCells();
        factsOfLocals();
        factsOfThreads();
        factsOfLocks();
        factsOfStuck();
        valuesBeyond();
        faults1();
        faults2();
        faults3();
        nodes400();
        eightDeep();
        leastOfOneToken();
        alwaysInAll();
        neverInAll();
        mayInSome();
        mustOnEachWay();
        leadsAtOnceOrLater();
        fairWays();
        fairFlushes();
        fairEnds();
        fairLeads();
        whereOfMust();
        whereOfLeads();
        whereOfFair();
        lawsOfTheStatesExploredLast();
        judgeNothingExplored();
        judgeEmptiesTheText();
        judgeFewer();
        whereOfTheLast();
        whereNone();
        House.finish();
    }

    private static House explored(String program, int way) {
        House house = House.of(program);
        house.x.explore(way, false);
        return house;
    }

    private static void formsOfLaws() {
        House.sentence("law = ('always' | 'never' | 'may' | ['fair'] 'must') fact | ['fair'] fact 'leads' fact");
        House house = explored("cell x = 1; lock l; thread A { r = 1; }", 0);
        String[] hold = {"always x", "never !x", "may x", "must x", "fair must x", "x leads x", "fair x leads x", "always\nx#\n==\t1",
            "(x) leads (x)", "!x leads !x", "-x leads x", "always x == 1 | x == 2 & x != 3", "ended A leads ended A", "held l leads 1", "1 leads x",
            "A.r leads A . r", "fair stuck leads x", "waits A leads wrong A"};
        for (String law : hold) {
            House.due("judge() of " + law, house.law(law), 1);
        }
        String[] faulty = {"fair @always x", "fair @never x", "fair @may x", "fair @fair must x", "must @fair x", "x @must x", "x leads @leads x",
            "x leads x @leads x", "always x @leads x", "must x @leads x", "fair must x @leads x", "fair x@", "@leads x", "always @always x", "always x@;",
            "never @may x", "x@", "x leads@", "fair@", "@", "fair @leads", "@if x", "always @cell", "always x @x", "always x @1", "(x @leads x)"};
        for (String law : faulty) {
            house.lawFault(law, 2);
        }
    }

    private static void lawsCutShort() {
        House.sentence("FAULTS as told: the text's end, if it ends too early");
        House house = explored("cell x = 1; lock l; thread A { r = 1; }", 0);
        String[] tokens = "fair ( A . r == - 1 & ! ended A | held l < x ) leads waits A + wrong A * stuck".split(" ");
        StringBuilder law = new StringBuilder();
        for (int i = 0; i < tokens.length; i++) {
            law.append(tokens[i]);
            boolean ends = i > 18 && (tokens[i].equals("A") || tokens[i].equals("stuck"));
            House.due("judge() of " + law, house.law(law.toString()), ends ? 0 : -12);
            House.due("count(1)", house.x.count(1), ends ? House.NONE : law.length());
            law.append(' ');
        }
        // each token in turn is one that can't come
        for (int i = 0; i < tokens.length; i++) {
            StringBuilder other = new StringBuilder();
            for (int k = 0; k < tokens.length; k++) {
                other.append(k == i ? "@;" : tokens[k]).append(' ');
            }
            house.lawFault(other.toString(), 2);
        }
    }

    private static void factsOfCells() {
        House.sentence("a cell's name (its memory)");
        House house = House.of("cell x = - 999; cell y = 999; thread A { y = 5; halt; }");
        int[] states = {3, 5, 3};
        for (int way = 0; way < 3; way++) {
            House.due("states", house.x.explore(way, false), states[way]);
            house.law("always x == - 999", 1, House.NONE);
            house.law("always y == 999 | y == 5", 1, House.NONE);
            // by buffers the memory has it behind the flush alone: A, its halt, its flush
            house.law("may y == 5", 1, way == 1 ? 3 : 1);
            house.law("may ended A & y == 999", way == 1 ? 1 : 0, way == 1 ? 2 : House.NONE);
        }
    }

    private static void factsOfLocals() {
        House.sentence("THREAD '.' LOCAL");
        House house = explored("cell r; thread A { p = 1; q = 2; p = 3; } thread B { q = 4; }", 0);
        house.law("may A.p == 3 & A.q == 2 & B.q == 4", 1, house.x.outcome(0, 1));
        house.law("never A.p == 2 | A.q == 4 | B.q == 2", 1, House.NONE);
        house.law("always A.p >= 0 & B.q <= 4", 1, House.NONE);
        house.lawFault("always B.@p", 3);
        house.lawFault("always A.@r", 3);
        house.lawFault("always A.@A", 3);
        house.lawFault("always A@", 2);
        house.lawFault("always A @== 1", 2);
        house.lawFault("always A.@", 2);
        house.lawFault("always A.@1", 2);
        house.lawFault("always A.@.p", 2);
        house.lawFault("always A.@stuck", 2);
        house.lawFault("always r@.p", 2);
        house.lawFault("always @p", 3);
        house.lawFault("always @p.p", 3);
    }

    private static void factsOfThreads() {
        House.sentence("'ended' | 'wrong' | 'waits' THREAD (1 or 0)");
        House house = explored("lock l; thread A { lock l; wait l; } thread B { assert 0; } thread C later { } thread D { }", 0);
        int end = house.x.outcome(0, 1);
        house.law("may waits A", 1, 3);
        house.law("may wrong B", 1, 2);
        house.law("may ended D", 1, 0);
        house.law("always ended D", 1, House.NONE);
        house.law("may ended A | ended B | ended C", 0, House.NONE);
        house.law("may wrong A | wrong C | wrong D", 0, House.NONE);
        house.law("may waits B | waits C | waits D", 0, House.NONE);
        house.law("may waits A + wrong B + ended D == 3", 1, end);
        house.law("always (waits A == 0 | waits A == 1) & (wrong B == 0 | wrong B == 1) & ended D == 1", 1, House.NONE);
        // a woken one waits no more, nor has it ended
        House woken = explored("lock l; thread A { lock l; start B; wait l; } thread B later { lock l; wake l; }", 0);
        woken.law("may ended B & (waits A | ended A | wrong A)", 0, House.NONE);
        woken.law("may ended B", 1, woken.x.outcome(0, 1));
        // of each thread apart
        String[] states = {"lock l; wait l;", "assert 0;", "halt;", "while 1 { }"};
        for (int t = 0; t < 4; t++) {
            StringBuilder program = new StringBuilder("lock l; ");
            for (int i = 0; i < 4; i++) {
                program.append("thread T").append(i).append(" { ").append(states[(i + t) % 4]).append(" } ");
            }
            House each = explored(program.toString(), 0);
            StringBuilder law = new StringBuilder("may 1");
            for (int i = 0; i < 4; i++) {
                int how = (i + t) % 4;
                law.append(how == 0 ? " & " : " & !").append("waits T").append(i);
                law.append(how == 1 ? " & " : " & !").append("wrong T").append(i);
                law.append(how == 2 ? " & " : " & !").append("ended T").append(i);
                String thread = " T" + i;
                House.due("may waits" + thread, each.law("may waits" + thread), how == 0 ? 1 : 0);
                House.due("may wrong" + thread, each.law("may wrong" + thread), how == 1 ? 1 : 0);
                House.due("may ended" + thread, each.law("may ended" + thread), how == 2 ? 1 : 0);
            }
            House.due("judge() of " + law, each.law(law.toString()), 1);
        }
        house.lawFault("always ended @l", 3);
        house.lawFault("always wrong @nobody", 3);
        house.lawFault("always waits @l", 3);
        house.lawFault("always ended @", 2);
        house.lawFault("always ended @1", 2);
        house.lawFault("always ended @(A)", 2);
        house.lawFault("always waits @held", 2);
    }

    private static void factsOfLocks() {
        House.sentence("'held' LOCK (the thread's number, - 1 nobody)");
        House house = explored("lock k; lock l; thread A { } thread B { lock l; lock l; unlock l; unlock l; } thread C { lock k; }", 0);
        house.law("may held l == 1", 1, 1);
        house.law("may held k == 2", 1, 2);
        house.law("may held l == - 1 & held k == - 1", 1, 0);
        house.law("always held l == 1 | held l == - 1", 1, House.NONE);
        house.law("always held k == 2 | held k == - 1", 1, House.NONE);
        house.law("never held l == 0 | held k == 1", 1, House.NONE);
        house.lawFault("always held @A", 3);
        house.lawFault("always held @m", 3);
        house.lawFault("always held @", 2);
        house.lawFault("always held @0", 2);
        house.lawFault("always @l", 3);
        House first = explored("lock l; thread A { lock l; } thread B { lock l; }", 0);
        first.law("may held l == 0", 1, 1);
        first.law("may held l == 1", 1, 2);
    }

    private static void factsOfStuck() {
        House.sentence("'stuck' (the STATE is an end that is not of sort 0)");
        String[] stuck = {"thread A { join A; }", "thread A { assert 0; }", "lock l; thread A { lock l; wait l; }", "thread A { join B; } thread B later { }"};
        String[] not = {"", "thread A { }", "thread A { halt; }", "thread A later { assert 0; }", "thread A { while 1 { } }"};
        for (int way = 0; way < 3; way++) {
            for (String program : stuck) {
                House house = explored(program, way);
                house.law("may stuck", 1, house.x.outcome(0, 1));
                house.law("always stuck == 0 | stuck == 1", 1, House.NONE);
                house.law("must stuck", 1, House.NONE);
            }
            for (String program : not) {
                House house = explored(program, way);
                house.law("may stuck", 0, House.NONE);
                house.law("never stuck", 1, House.NONE);
            }
        }
        // a state from which a step goes on is no end, though a thread went wrong
        House goes = explored("thread A { assert 0; } thread B { fence; }", 0);
        goes.law("may stuck", 1, 3);
        goes.law("always stuck | !wrong A | !ended B", 1, House.NONE);
    }

    private static void valuesBeyond() {
        House.sentence("Values beyond - 999 .. 999 make a fact 0.");
        House house = explored("cell x = 999; thread A { x = - 999; }", 0);
        house.law("may x + 1", 1, 1);
        house.law("may !(x + 1)", 0, House.NONE);
        house.law("may x + 1 == 0 | 1", 1, 1);
        house.law("may - (- x - 1)", 1, 1);
        house.law("always 1 | x * 2", 0, 0);
        house.law("always 0 & x * 2 | 1", 0, 0);
        house.law("never 1 | x * 2", 1, House.NONE);
        house.law("always x - x == 0", 1, House.NONE);
        house.law("always x * x", 0, 0);
        house.law("always x == 999 | x == - 999", 1, House.NONE);
        house.law("must 1 | x + 1", 1, House.NONE);
        house.law("must 1 | x * 2", 0, 0);
        house.law("1 | x * 2 leads 0", 1, House.NONE);
        house.law("x leads 1 | x * 2", 0, 0);
        house.law("may 999 + 1 - 1", 0, House.NONE);
        house.law("may 999 - 999", 0, House.NONE);
        house.law("may 998 + 1 & - 998 - 1", 1, 0);
    }

    private static void faults1() {
        House.sentence("FAULTS as told: 1");
        House house = explored("cell x; thread A { r = 1; }", 0);
        String[] laws = {"@$", "always @$", "always x @$", "always @1000", "always @abcdefghi", "@abcdefghi x", "fair @%", "x leads @0000", "always A.@%", "always ended @%",
            "held @\u00e9", "always x@\u0000", "always (x @~", "x @abcdefghi x"};
        for (String law : laws) {
            house.lawFault(law, 1);
        }
    }

    private static void faults2() {
        House.sentence("FAULTS as told: 2");
        House house = explored("cell x; thread A { r = 1; }", 0);
        String[] laws = {"always @;", "always x == x @== x", "always (x@", "always x +@", "always @* x", "always x @= x", "always @)", "always x @{", "always x @. r",
            "x @, leads x", "always @lock", "always @into", "must@", "may @else", "always x @volatile"};
        for (String law : laws) {
            house.lawFault(law, 2);
        }
    }

    private static void faults3() {
        House.sentence("and 3 for names that are none such");
        House house = explored("cell x; lock l; thread A { r = 1; }", 0);
        String[] laws = {"always @r", "always @y", "always @l", "always A.@x", "always A.@l", "always A.@s", "always ended @x", "always ended @l", "always ended @r",
            "always wrong @x", "always waits @x", "always held @x", "always held @A", "always held @r", "x leads @y", "@y leads x", "fair must @write", "always x + @b == $"};
        for (String law : laws) {
            house.lawFault(law, 3);
        }
    }

    private static void nodes400() {
        House.sentence("4 (400 NODES, a thread's LOCAL, 'ended' with its THREAD and the like being one, at its first token)");
        String[] ones = {"1", "x", "A.r", "A . r", "ended A", "wrong A", "waits A", "held l", "stuck"};
        for (String one : ones) {
            House house = explored("cell x = 1; lock l; thread A { r = 1; }", 0);
            House.due("400 nodes of " + one, house.law("may 1 | " + House.times(197, one + "*") + one + " - -" + one), 1);
            house.lawFault("always " + NODES_399 + "*@" + one, 4);
            house.lawFault("always -" + one + House.times(199, "*" + one) + "@*" + one, 4);
            house.lawFault("1" + House.times(100, "*" + one) + " leads " + one + House.times(99, "*" + one) + "@*" + one, 4);
        }
        House house = explored("cell x = 1; lock l; thread A { r = 1; }", 0);
        house.lawFault("always " + NODES_399 + "*@!1", 4);
        house.lawFault("always " + NODES_399 + "*@-1", 4);
        house.lawFault("always " + NODES_399 + "*(@1)", 4);
        house.lawFault("always -" + NODES_399 + "@&1", 4);
        house.lawFault("always !" + NODES_399 + "@==1", 4);
        House.due("brackets are none", house.law("always -((((" + NODES_399 + "))))"), 1);
        // those of the program are not counted
        House full = House.of("thread A { r = " + NODES_399 + "; r = 1; }");
        full.x.explore(0, false);
        full.law("always -" + NODES_399, 1, House.NONE);
    }

    private static void eightDeep() {
        House.sentence("4 (8 deep)");
        House house = explored("cell x = 1; lock l; thread A { r = 1; }", 0);
        String[] nine = {House.times(9, "("), House.times(9, "-"), House.times(9, "!"), "-(-(-(-(-", "(!(!(!(!("};
        String[] heads = {"always ", "never ", "may ", "must ", "fair must ", "", "fair ", "x leads ", "x == 1 & ", "1 + "};
        String[] ones = {"1", "x", "A.r", "ended A", "held l", "stuck", "(1", "-1"};
        for (String deep : nine) {
            for (String head : heads) {
                if (!head.startsWith("x ==") && !head.startsWith("1 +")) {
                    house.lawFault(head + deep + "@" + ones[deep.length() % 8], 4);
                    house.lawFault(head + deep + "@x", 4);
                } else {
                    house.lawFault("always " + head + deep + "@(1", 4);
                }
                String eight = deep.substring(1);
                String law = head.isEmpty() || head.equals("fair ") ? head + eight + "x" + closed(eight) + " leads x"
                    : head.startsWith("x ==") || head.startsWith("1 +") ? "always " + head + eight + "x" + closed(eight) : head + eight + "x" + closed(eight);
                House.due("judge() of " + law, house.law(law) >= 0 ? 1 : 0, 1);
            }
            house = explored("cell x = 1; lock l; thread A { r = 1; }", 0);
        }
        for (String one : ones) {
            house.lawFault("always " + House.times(9, "(") + "@" + one, 4);
        }
        House.due("both facts 8 deep", house.law(House.times(8, "(") + "x" + House.times(8, ")") + " leads " + House.times(8, "-") + "x"), 1);
    }

    private static String closed(String deep) {
        return deep.replaceAll("[^(]", "").replace('(', ')');
    }

    private static void leastOfOneToken() {
        House.sentence("FAULTS as told: Of one token the least.");
        House house = explored("cell x = 1; lock l; thread A { r = 1; }", 0);
        house.lawFault("always " + House.times(9, "(") + "@l", 3);
        house.lawFault("always " + House.times(9, "(") + "@nobody", 3);
        house.lawFault("always " + House.times(9, "(") + "@)", 2);
        house.lawFault("always " + House.times(9, "(") + "@$", 1);
        house.lawFault("always " + NODES_399 + "*@l", 3);
        house.lawFault("always " + NODES_399 + "*@", 2);
        house.lawFault("always " + NODES_399 + "*@1000", 1);
        // the first token of what is one node too many comes ahead of the name behind it
        house.lawFault("always " + NODES_399 + "*@A.nobody", 4);
        house.lawFault("always " + NODES_399 + "*@ended nobody", 4);
        house.lawFault("always " + NODES_399 + "*@held $", 4);
    }

    private static void alwaysInAll() {
        House.sentence("always: in all STATES; WHERE: of always one without");
        House house = explored("cell x; thread A { x = 1; x = 2; x = 3; x = 2; }", 0);
        house.law("always x < 4", 1, House.NONE);
        house.law("always x < 3", 0, 3);
        house.law("always x < 2", 0, 2);
        house.law("always x", 0, 0);
        house.law("always !ended A", 0, 4);
        house.law("always 0", 0, 0);
        house.law("always - 5", 1, House.NONE);
        explored("", 0).law("always 1", 1, House.NONE);
        explored("", 0).law("always 0", 0, 0);
    }

    private static void neverInAll() {
        House.sentence("never: in all STATES; WHERE: of never one with it");
        House house = explored("cell x; thread A { x = 1; x = 2; x = 3; x = 2; }", 0);
        house.law("never x > 3", 1, House.NONE);
        house.law("never x == 2", 0, 2);
        house.law("never x == 3", 0, 3);
        house.law("never ended A", 0, 4);
        house.law("never x == 0", 0, 0);
        house.law("never - 5", 0, 0);
        house.law("never 0", 1, House.NONE);
    }

    private static void mayInSome() {
        House.sentence("may: in some; WHERE: Of may that holds: the least with it.");
        House house = explored("cell x; thread A { x = 1; x = 2; x = 3; x = 2; }", 0);
        house.law("may x == 2", 1, 2);
        house.law("may ended A", 1, 4);
        house.law("may 1", 1, 0);
        house.law("may x == 4", 0, House.NONE);
        house.law("may 0", 0, House.NONE);
    }

    private static void mustOnEachWay() {
        House.sentence("must: each way that goes on as long as it can comes to a STATE with it");
        House house = explored("cell x; thread A { x = 1; x = 0; } thread B { fence; }", 0);
        house.law("must x", 1, House.NONE);
        house.law("must x == 0", 1, House.NONE);
        house.law("must ended A", 1, House.NONE);
        house.law("must ended A & ended B", 1, House.NONE);
        house.law("must x & ended B", 0, 0);
        house.law("must x == 2", 0, 0);
        // a way that goes on for ever without it
        House loop = explored("cell x; thread A { while r == 0 { r = x; } } thread B { x = 1; }", 0);
        loop.law("must x", 0, 0);
        loop.law("must 1", 1, House.NONE);
        House forced = explored("cell x; thread A { while r < 4 { add x, 1 into r; } } thread B { fence; }", 0);
        forced.law("must ended A", 1, House.NONE);
        forced.law("must x == 5", 1, House.NONE);
        // the first state is an end
        House none = explored("thread A { }", 0);
        none.law("must ended A", 1, House.NONE);
        none.law("must !ended A", 0, 0);
    }

    private static void leadsAtOnceOrLater() {
        House.sentence("leads: from each STATE with the first fact each way comes (at once, or later) to one with the second");
        House house = explored("cell x; thread A { x = 1; x = 2; x = 3; x = 1; }", 0);
        house.law("x == 2 leads x == 2", 1, House.NONE);
        house.law("x == 2 leads x == 3", 1, House.NONE);
        house.law("x == 2 leads x == 1", 1, House.NONE);
        house.law("x == 0 leads x == 1", 1, House.NONE);
        // the last state with the first fact counts as well as the first
        house.law("x == 1 leads x == 3", 0, 4);
        house.law("x == 3 leads x == 2", 0, 3);
        house.law("x == 9 leads 0", 1, House.NONE);
        house.law("1 leads 1", 1, House.NONE);
        house.law("1 leads ended A", 1, House.NONE);
        house.law("1 leads 0", 0, 0);
        // behind the second fact a way may go on without it for ever
        House after = explored("cell x; cell y; thread A { while r == 0 { x = 1; x = 0; r = y; } x = 2; } thread B { y = 1; }", 0);
        after.law("x == 1 leads x == 0", 1, House.NONE);
        after.law("fair x == 1 leads x == 0", 1, House.NONE);
        after.law("x == 0 leads x", 1, House.NONE);
        after.law("fair x == 0 leads x", 1, House.NONE);
        after.law("x leads x == 0", 0, after.x.outcome(0, 1));
        // from a state with the second fact a way goes on without it, which is no matter where one comes to it first
        House late = explored("cell x; cell y; thread A { r = y; if r { x = 1; r = 0; x = 0; } } thread B { x = 2; } thread C { y = 1; }", 0);
        late.law("x == 1 leads x == 0", 1, House.NONE);
        late.law("fair x == 1 leads x == 0", 1, House.NONE);
        // a state to which none comes does not count: all states are come to
        House branch = explored("cell x; thread A { x = 1; r = x; } thread B { x = 2; }", 0);
        branch.law("ended A & A.r == 2 leads x == 2", 1, House.NONE);
        branch.law("x == 2 leads A.r == 2", 0, 2);
    }

    private static void fairWays() {
        House.sentence("FAIR: ways on which some thread has a READY STEP in each STATE from one on, but takes none from there, do not count.");
        House spin = explored("cell x; thread A { while r == 0 { r = x; } } thread B { x = 1; }", 0);
        spin.law("must ended A", 0, 0);
        spin.law("fair must ended A", 1, House.NONE);
        spin.law("fair must x", 1, House.NONE);
        // ready again and again, but not in each state: the way counts
        House lock = explored("lock l; thread A { while 1 { lock l; unlock l; } } thread B { lock l; }", 0);
        lock.law("fair must ended B", 0, 0);
        lock.law("fair must held l == 0 | held l == 1", 1, House.NONE);
        // a thread that is never ready on the way is no matter
        House never = explored("lock l; thread A { lock l; while 1 { } } thread B { lock l; r = 1; }", 0);
        never.law("fair must B.r", 0, 0);
        // two that go round by turns: each of them takes steps
        House both = explored("thread A { while 1 { p = 1 - p; } } thread B { while 1 { q = 1 - q; } }", 0);
        both.law("fair must A.p", 1, House.NONE);
        both.law("fair must B.q", 1, House.NONE);
        both.law("fair must A.p & B.q", 0, 0);
        both.law("fair must A.p & !B.q | B.q & !A.p", 1, House.NONE);
        both.law("must A.p", 0, 0);
        // three: a way that leaves out the third one does not count
        House three = explored("cell x; thread A { while r == 0 { r = x; } } thread B { while r == 0 { r = x; } } thread C { x = 1; }", 0);
        three.law("fair must x", 1, House.NONE);
        three.law("must x", 0, 0);
        // it may take its step and go on for ever
        House goes = explored("thread A { while 1 { } } thread B { while 1 { r = 1 - r; } }", 0);
        goes.law("fair must B.r", 1, House.NONE);
        goes.law("fair must !B.r & 0", 0, 0);
        // one that waits, or went wrong, or has not begun has no ready step
        House rest = explored("lock l; thread A { while 1 { } } thread B { lock l; wait l; } thread C { assert 0; } thread D later { }", 0);
        rest.law("fair must waits B & wrong C", 1, House.NONE);
        rest.law("must waits B", 0, 0);
        rest.law("fair must ended D", 0, 0);
    }

    private static void fairFlushes() {
        House.sentence("FAIR: a READY STEP (a FLUSH is one of its thread)");
        House other = House.of("cell x; thread A { x = 1; } thread B { while 1 { } }");
        other.x.explore(1, false);
        other.law("must x", 0, 0);
        other.law("fair must x", 1, House.NONE);
        // a thread that takes other steps takes steps, though never its flush
        House own = House.of("cell x; thread A { x = 1; while 1 { } }");
        own.x.explore(1, false);
        own.law("fair must x", 0, 0);
        own.x.explore(0, false);
        own.law("must x", 1, House.NONE);
        // by views a loop that tells old values for ever takes steps
        House views = House.of("cell x; thread A { r = x; while r == 0 { r = x; } } thread B { x = 1; }");
        views.x.explore(0, false);
        views.law("fair must ended A", 1, House.NONE);
        views.x.explore(2, false);
        views.law("fair must ended A", 0, 0);
        views.law("fair must ended B", 1, House.NONE);
    }

    private static void fairEnds() {
        House.sentence("(a way that ends in a STATE where no STEP is READY leaves no thread out)");
        House house = explored("lock l; thread A { lock l; } thread B { lock l; r = 1; }", 0);
        house.law("fair must B.r", 0, 0);
        house.law("fair must ended A", 0, 0);
        house.law("fair must ended A | B.r", 1, House.NONE);
        explored("", 0).law("fair must 0", 0, 0);
    }

    private static void fairLeads() {
        House.sentence("['fair'] fact 'leads' fact");
        House spin = explored("cell x; cell y; thread A { while r == 0 { r = x; } y = 1; } thread B { x = 1; }", 0);
        spin.law("x == 0 leads x", 0, 0);
        spin.law("fair x == 0 leads x", 1, House.NONE);
        spin.law("fair x leads y", 1, House.NONE);
        spin.law("x leads y", 1, House.NONE);
        spin.law("fair y leads !y", 0, spin.x.outcome(0, 1));
        House both = explored("thread A { while 1 { p = 1 - p; } } thread B { while 1 { q = 1 - q; } }", 0);
        both.law("fair A.p leads !A.p", 1, House.NONE);
        both.law("fair A.p leads B.q", 1, House.NONE);
        both.law("fair A.p leads A.p & B.q", 0, 0);
    }

    private static void whereOfMust() {
        House.sentence("WHERE: of must the least one without the fact wanted from which a way goes on without it as long as it can,"
            + " and to which one comes (from the first STATE) without it");
        // A's way round begins behind a first step; from the first state one comes to it without x
        House house = explored("cell x; thread A { fence; while 1 { } } thread B { x = 1; }", 0);
        house.law("must x", 0, 0);
        // the first state has the fact: each way comes to it at once
        house.law("must x == 0", 1, House.NONE);
        // a state without it behind one with it does not count
        House behind = explored("cell x; thread A { x = 1; x = 0; join A; }", 0);
        behind.law("must x", 1, House.NONE);
        behind.law("must x == 2", 0, 0);
    }

    private static void whereOfLeads() {
        House.sentence("and of leads: to which one comes (from one with the first fact) without it");
        House house = explored("cell x; thread A { x = 1; x = 2; x = 3; join A; }", 0);
        house.law("x == 1 leads x == 9", 0, 1);
        house.law("x == 2 leads x == 9", 0, 2);
        house.law("x == 3 leads x == 9", 0, 3);
        house.law("x == 1 | x == 3 leads x == 2", 0, 3);
        house.law("x == 0 leads x == 1", 1, House.NONE);
        // a lesser state to which one comes back
        House round = explored("cell x; thread A { while 1 { x = 1; x = 2; x = 0; } }", 0);
        round.law("x == 1 leads x == 9", 0, 0);
        House first = explored("cell x; cell y; thread A { y = 1; while 1 { x = 1; x = 0; } }", 0);
        first.law("x == 1 leads y == 0", 0, 1);
        // a state with the first fact that has the second, too, is none to come from
        House at = explored("cell x; thread A { x = 1; x = 2; join A; }", 0);
        at.law("x == 1 leads x == 1", 1, House.NONE);
        at.law("x leads x == 1", 0, 2);
        at.law("x < 2 leads x == 1", 1, House.NONE);
    }

    private static void whereOfFair() {
        House.sentence("from which a way (a fair one) goes on without it as long as it can");
        // it is fair to stay where B has gone another way: r is 2 there
        House house = explored("cell x; thread A { while r == 0 { r = x; } } thread B { if 1 { r = 2; } while 1 { } }", 0);
        house.law("fair must ended A", 0, 0);
        House later = explored("cell x; thread A { while 1 { } } thread B { x = 1; x = 2; }", 0);
        later.law("fair must x == 3", 0, 0);
        later.law("fair x == 1 leads x == 0", 0, 1);
        later.law("fair x == 1 leads x == 2", 1, House.NONE);
        later.law("x == 1 leads x == 2", 0, 1);
        // by fair ways x is 2 then; one without the fact from the first on, to which no fair way comes, does not show it
        later.law("fair x == 0 leads x == 2", 1, House.NONE);
        later.law("x == 0 leads x == 2", 0, 0);
    }

    private static void lawsOfTheStatesExploredLast() {
        House.sentence("Judged for the STATES explored last");
        House house = House.of("cell x; cell y; thread A { x = 1; p = y; } thread B { y = 1; q = x; }");
        String law = "never ended A & ended B & A.p == 0 & B.q == 0";
        for (int i = 0; i < 2; i++) {
            house.x.explore(0, false);
            House.due("judge", house.law(law), 1);
            house.x.explore(1, false);
            House.due("judge", house.law(law), 0);
            house.x.explore(2, false);
            House.due("judge", house.law(law), 0);
        }
        house.x.rewrite(1, 2);
        house.x.explore(0, false);
        House.due("judge", house.law("may y"), 1);
        house.x.sound(0);
        House.due("judge", house.law("may y"), 0);
    }

    private static void judgeNothingExplored() {
        House.sentence("judge: BAD: nothing was explored (nothing is read then)");
        House none = new House();
        House.due("judge", none.law("always 1"), House.BAD);
        House.due("bytes", none.x.count(2), 8);
        House house = House.of("cell x; thread A { x = 1; }");
        House.due("judge of a faulty law", house.law("always"), House.BAD);
        House.due("bytes", house.x.count(2), 6);
        house.feed(" x == 0");
        house.x.explore(0, false);
        House.due("judge", house.x.judge(), 0);
        House.due("where", house.x.where(), 1);
        House.due("bytes", house.x.count(2), 0);
        House.due("judge of no text", house.x.judge(), -12);
        House.due("place", house.x.count(1), 0);
    }

    private static void judgeEmptiesTheText() {
        House.sentence("The text, which is empty then, is a law, judged: 1 it holds, 0 not; - 10 less its fault.");
        House house = explored("cell x; thread A { x = 1; }", 0);
        String[] laws = {"always 1", "always 0", "always $", "always", "always y", "always " + House.times(9, "(") + "1"};
        int[] due = {1, 0, -11, -12, -13, -14};
        for (int i = 0; i < laws.length; i++) {
            House.due("judge() of " + laws[i], house.law(laws[i]), due[i]);
            House.due("bytes", house.x.count(2), 0);
        }
        // a law of 4,000 bytes
        House.due("a long law", house.law("always 1" + House.times(3991, " ") + "#"), 1);
        house.feed("always 1" + House.times(3991, " ") + "$");
        House.due("a long faulty law", house.x.judge(), -11);
        House.due("its place", house.x.count(1), 3999);
    }

    private static void judgeFewer() {
        House.sentence("else, behind faults (the text is read, and empty), must, leads, and what was explored are FEWER turns.");
        House house = House.of("cell x; thread A { r = 1; x = 1; }");
        for (int way = 0; way < 3; way++) {
            house.x.explore(way, true);
            String[] laws = {"must x", "fair must x", "x leads x", "fair x leads x"};
            for (String law : laws) {
                House.due("judge() of " + law, house.law(law), House.BAD);
                House.due("bytes", house.x.count(2), 0);
                House.due("fault", house.x.count(0), 0);
                House.due("place", house.x.count(1), House.NONE);
            }
            house.lawFault("must @y", 3);
            house.lawFault("must@", 2);
            house.lawFault("x leads @$", 1);
            house.lawFault("fair must " + House.times(9, "!") + "@x", 4);
            House.due("always", house.law("always x < 2"), 1);
            House.due("never", house.law("never x == 2"), 1);
            House.due("may", house.law("may x"), 1);
            house.x.explore(way, false);
            House.due("must", house.law("must x"), 1);
            House.due("leads", house.law("1 leads x"), 1);
        }
    }

    private static void whereOfTheLast() {
        House.sentence("WHERE, of the last judge() that answered 1 or 0 (since program())");
        House house = explored("cell x; thread A { x = 1; x = 2; x = 3; }", 0);
        house.law("never x == 2", 0, 2);
        house.lawFault("never @y", 3);
        House.due("where", house.x.where(), 2);
        House.due("judge", house.law("$"), -11);
        House.due("where", house.x.where(), 2);
        house.x.explore(0, true);
        House.due("judge", house.law("must x == 7"), House.BAD);
        House.due("where", house.x.where(), 2);
        house.x.begin(0);
        house.x.rewrite(1, 0);
        house.x.sound(0);
        house.x.drop();
        House.due("nothing explored", house.x.explored(0), House.BAD);
        House.due("judge", house.x.judge(), House.BAD);
        House.due("where", house.x.where(), 2);
        house.x.explore(1, false);
        House.due("where", house.x.where(), 2);
        house.law("may x == 3", 1, 9);
        house.law("always 1", 1, House.NONE);
        house.law("may x == 3", 1, 9);
        house.read("cell x;");
        House.due("where behind program()", house.x.where(), House.NONE);
        house.x.explore(0, false);
        house.law("may 1", 1, 0);
        house.read("cell");
        House.due("where behind a fault", house.x.where(), House.NONE);
    }

    private static void whereNone() {
        House.sentence("NONE: there is none such (also of always, never, must, leads that hold, of may that does not).");
        House house = new House();
        House.due("where of a new object", house.x.where(), House.NONE);
        house.read("cell x; thread A { x = 1; }");
        House.due("where behind program()", house.x.where(), House.NONE);
        house.x.explore(0, false);
        House.due("where behind explore()", house.x.where(), House.NONE);
        String[] hold = {"always 1", "never 0", "must x", "fair must x", "1 leads x", "fair 1 leads x"};
        for (String law : hold) {
            house.law("may x", 1, 1);
            house.law(law, 1, House.NONE);
        }
        house.law("may x", 1, 1);
        house.law("may x == 2", 0, House.NONE);
    }
}
