/** Edges of section 2 and of promises 4 to 6: each test goes by one sentence of the document. */
public final class GrammarEdgesTest {
    private static final String RESERVED = "cell volatile lock thread later cas add into unlock wait wake wakeall start join fence"
        + " halt assert call reply if else while always never may must leads fair ended wrong waits held stuck";
    /** Each statement in each of its forms. */
    private static final String EVERYTHING = "cell x ; cell y volatile = - 5 ; cell z = 7 ; lock l ; thread A later { r = 1 ; x = r + 2 ; r = x ;"
        + " cas x , 1 , 2 ; cas x , 1 , 2 into r ; add y , 1 ; add y , 1 into s ; lock l ; unlock l ; wait l ; wake l ; wakeall l ;"
        + " start A ; join B ; fence ; halt ; assert r == 1 | r < 2 & ! r ; call r ; call w 1 ; reply ; reply - 1 * 2 ; if r { r = 1 ; }"
        + " if ( r ) { } else { while ! r { } } } thread B { }";
    private static final String NODES_399 = "r = 1" + House.times(199, "+1") + ";";

    public static void main(String[] args) {
        anyNumberOfItems();
        orNot();
        wherePlacesAre();
        tokensThatCantCome();
        textsThatEndTooEarly();
        theFirstFault();
        reservedWords();
        signsOfTestsOnce();
        namesAreUnlike();
        namesOfLocals();
        toldAbove();
        threadsAnywhere();
        threadsToldBelow();
        wordBehindCall();
        numbersOfLocals();
        loads();
        namesWhereTheyCantBe();
        wordsOfAnotherKind();
        cells8();
        locks4();
        threads4();
        locals6();
        statements100();
        nodes400();
        whatIsANode();
        blocksWithin8();
        expressionsWithin8();
        leastOfOneToken();
        noThreadsName();
        numbersOfLines();
        programEmptiesTheText();
        programTakesAllAway();
        countsWithoutProgram();
        countOfNoSuchNumber();
        faultOfTheLast();
        lineOfNoSuch();
        whatLinesName();
        blocksOfLines();
        House.finish();
    }

    private static void anyNumberOfItems() {
        House.sentence("{ } for any number of times");
        House none = House.of("");
        for (int what = 2; what < 8; what++) {
            House.due("count(" + what + ") of an empty program", none.x.count(what), 0);
        }
        House.of("thread A { }");
        House.of("cell x;");
        House.of("lock l;");
        House.of("thread A { } lock l; thread B { } cell x; lock m;");
        House.of("thread A { if 1 { } else { } while 1 { } }");
    }

    private static void orNot() {
        House.sentence("[ ] for or not");
        House.of(EVERYTHING);
        House.of("cell a; cell b volatile; cell c = 1; cell d volatile = 1; cell e = - 1; cell f volatile = - 1;");
        House.fault("cell a volatile @volatile;", 2);
        House.fault("cell a = 1 @= 1;", 2);
        House.fault("cell a = @+ 1;", 2);
        House.fault("cell a = - @- 1;", 2);
        House.fault("cell a = 1 @+ 1;", 2);
        House.fault("cell a = @b;", 2);
        House.fault("lock l @= 1;", 2);
        House.fault("thread A { if 1 @halt; }", 2);
        House.fault("thread A { if 1 { } else @halt; }", 2);
        House.fault("thread A { if 1 { } else { } @else { } }", 2);
        House.fault("thread A { while 1 { } @else { } }", 2);
        House.fault("thread A { reply 1 @1; }", 2);
        House.fault("thread A { fence @r; }", 2);
        House.fault("thread A { call @1; }", 2);
        House.fault("cell x; thread A { x = 1 @into r; }", 2);
        House.fault("thread A { @; }", 2);
        House.fault("thread A { @{ } }", 2);
    }

    private static void wherePlacesAre() {
        House.sentence("FAULTS, at a token's first byte (the text's end, if it ends too early).");
        House.fault("  \t cell # x\n  @12 ;", 2);
        House.fault("cell x@", 2);
        House.fault("cell x   \n @", 2);
        House.fault("cell x # ;@", 2);
        House.fault("cell @= = 1;", 2);
        House.fault("cell @<= 1;", 2);
    }

    /** Each token in turn is one that can come nowhere in a program: the fault is there. */
    private static void tokensThatCantCome() {
        House.sentence("2 a token that can't come");
        String[] tokens = EVERYTHING.split(" ");
        for (int i = 0; i < tokens.length; i++) {
            StringBuilder text = new StringBuilder();
            for (int k = 0; k < tokens.length; k++) {
                text.append(k == i ? "@." : tokens[k]).append(' ');
            }
            House.fault(text.toString(), 2);
        }
        House.fault(EVERYTHING + " @.", 2);
    }

    /** A text that is cut behind any token: the fault is at its end, but where an item ends. */
    private static void textsThatEndTooEarly() {
        House.sentence("the text's end, if it ends too early");
        String[] tokens = EVERYTHING.split(" ");
        StringBuilder text = new StringBuilder();
        int depth = 0;
        for (String token : tokens) {
            text.append(token);
            depth += token.equals("{") ? 1 : token.equals("}") ? -1 : 0;
            boolean ends = depth == 0 && (token.equals(";") || token.equals("}"));
            House house = new House();
            int due = !ends ? 2 : text.indexOf("join") >= 0 && text.indexOf("thread B") < 0 ? 5 : 0;
            House.due("program() of " + text, house.read(text.toString()), due);
            int place = due == 2 ? text.length() : due == 5 ? text.indexOf("join B") + 5 : House.NONE;
            House.due("count(1) behind " + text, house.x.count(1), place);
            text.append(' ');
        }
    }

    private static void theFirstFault() {
        House.sentence("The first that reading meets");
        House.fault("cell x @lock $", 2);
        House.fault("cell x; cell @x $", 3);
        House.fault("cell x; cell @x; ; $", 3);
        House.fault("cell a; cell b; cell c; cell d; cell e; cell f; cell g; cell h; cell @i; cell a; $", 4);
        House.fault("thread A { start B; } @$", 1);
        House.fault("thread A { start B; @= }", 2);
        House.fault("thread A { start B; } thread @A { }", 3);
        House.fault("lock @abcdefghi lock", 1);
    }

    private static void reservedWords() {
        House.sentence("Words in quotes are RESERVED: they are no WORD (so are those of 8)");
        for (String word : RESERVED.split(" ")) {
            House.fault("cell @" + word + ";", 2);
            House.fault("lock @" + word + ";", 2);
            House.fault("thread @" + word + " { }", 2);
            House.fault("thread A { r = @" + word + "; }", 2);
            House.fault("thread A { call @" + word + "; }", 2);
            House.fault("thread A { start @" + word + "; }", 2);
            House.fault("cell x; thread A { add x, 1 into @" + word + "; }", 2);
            House.fault("cell x; thread A { cas @" + word + ", 1, 2; }", 2);
            House.fault("lock l; thread A { wait @" + word + "; }", 2);
        }
        // the words of calls are not reserved
        for (String word : "write read plus push pop put get program block exp all test sum term one".split(" ")) {
            House.of("cell " + word + "; thread A { call " + word + "; r = " + word + "; }");
        }
    }

    private static void signsOfTestsOnce() {
        House.sentence("test = sum [('==' | '!=' | '<' | '<=' | '>' | '>=') sum]");
        for (String one : "== != < <= > >=".split(" ")) {
            for (String other : "== != < <= > >=".split(" ")) {
                House.fault("thread A { r = 1 " + one + " 2 @" + other + " 3; }", 2);
                House.of("thread A { r = (1 " + one + " 2) " + other + " 3 & 1 " + one + " 2 | 1 " + other + " 2; }");
            }
        }
    }

    private static void namesAreUnlike() {
        House.sentence("NAMES of cells, locks, threads: all unlike; 3 a name that is told already");
        String[] told = {"cell x;", "lock x;", "thread x { }"};
        String[] again = {"cell @x;", "lock @x;", "thread @x { }"};
        for (String one : told) {
            for (String other : again) {
                House.fault(one + other, 3);
                House.fault("cell y; " + one + "lock z; thread w { }" + other, 3);
            }
        }
    }

    private static void namesOfLocals() {
        House.sentence("3 a name that is told already (a cell's, lock's, thread's also, if a thread above has a LOCAL of it)");
        String[] locals = {"x = 1;", "r = x;", "r = 1 + x;", "reply x;", "if x { }", "while 0 { r = 0; x = 1; }", "call w x;"};
        for (String local : locals) {
            House.fault("thread A { " + local + " } cell @x;", 3);
            House.fault("thread A { " + local + " } lock @x;", 3);
            House.fault("thread A { " + local + " } thread @x { }", 3);
            House.fault("thread A { " + local + " } thread B { r = 1; } thread @x { }", 3);
        }
        House.fault("cell y; thread A { cas y, 1, 2 into x; } cell @x;", 3);
        House.fault("cell y; thread A { add y, 1 into x; } lock @x;", 3);
        // the LOCALS of threads may be alike
        House.of("thread A { x = 1; } thread B { x = 1; }");
        // a thread's name told below, where a local has it
        House.fault("thread A { B = 1; } thread @B { }", 3);
        House.fault("thread A { r = B; start B; } thread @B { }", 3);
    }

    private static void toldAbove() {
        House.sentence("told above where they stand");
        House.fault("thread A { cas @x, 1, 2; } cell x;", 3);
        House.fault("thread A { add @x, 1; } cell x;", 3);
        House.fault("thread A { x = 1; } cell @x;", 3);
        House.fault("thread A { r = x; } cell @x;", 3);
        for (String statement : "lock unlock wait wake wakeall".split(" ")) {
            House.fault("thread A { " + statement + " @l; } lock l;", 3);
        }
    }

    private static void threadsAnywhere() {
        House.sentence("but threads: anywhere");
        House.of("thread A { start B; join C; } thread B later { start A; } thread C { join A; join C; }");
        House house = House.of("thread A { start C; } thread B { } thread C later { }");
        House.due("C", house.x.line(0, 2), 2);
    }

    private static void threadsToldBelow() {
        House.sentence("(A thread's name told below does not make a WORD above it a thread but behind 'start', 'join';"
            + " told then as a name it is 3, if a LOCAL or anything has it.)");
        House house = House.of("thread A { start C; join B; call B; call C B1; } thread B { start C; } thread C later { join A; }");
        int[] due = {2, 1, House.NONE, House.NONE, 2, 0};
        for (int i = 0; i < due.length; i++) {
            House.due("line(" + i + ", 2)", house.x.line(i, 2), due[i]);
        }
        String[] locals = {"B = 1;", "r = B;", "start B; r = 1 - B;", "B = 1; join B;", "if B { } start B;", "call w B;", "start B; B = B;"};
        for (String local : locals) {
            House.of("thread A { " + local.replaceAll("(start|join) B", "$1 C") + " } thread C { }");
            House.fault("thread A { " + local + " } thread C { } thread @B { }", 3);
        }
        House.fault("thread A { start B; } cell B; thread @B { }", 3);
        House.fault("thread A { start B; } lock B; thread @B { }", 3);
        House.fault("thread A { start B; } thread B { } thread @B { }", 3);
        // where a cell or a lock is wanted, it is none of them
        House.fault("thread A { add @B, 1; } thread B { }", 3);
        House.fault("thread A { lock @B; } thread B { }", 3);
    }

    private static void wordBehindCall() {
        House.sentence("A WORD of a thread that is none of these, but the one behind call, is a LOCAL of it");
        House house = House.of("cell x; lock l; thread A { call x; call l; call A; call w; call v; call u; call t; call s; r = 1; call r r; } cell w;");
        house.begin(0, 0, 0, 0, 0, 0, 0, 0, 0, 0);
        House.due("r is the first", house.x.local(0, 0), 1);
        House.due("and the last", house.x.local(0, 1), House.NO_VALUE);
        House.due("no local is set", house.x.line(0, 3), House.NONE);
        House.due("none is named", house.x.line(0, 2), House.NONE);
        // the one behind it is a local, though
        House.fault("thread A { call w s; } cell @s;", 3);
    }

    private static void numbersOfLocals() {
        House.sentence("a LOCAL of it (0, 1, .. as they first stand in it)");
        House house = House.of("cell x; thread A { e = d + e * c; cas x, b, e into a; add x, d into f; } thread B { f = e; e = 1; }");
        int[] due = {0, 4, 5, 0, 1};
        for (int i = 0; i < due.length; i++) {
            House.due("line(" + i + ", 3)", house.x.line(i, 3), due[i]);
        }
        House blocks = House.of("thread A { if p { q = 1; } else { r = 1; } while s { t = 1; } p = 1; }");
        int[] next = {House.NONE, 1, 2, House.NONE, 4, 0};
        for (int i = 0; i < next.length; i++) {
            House.due("line(" + i + ", 3)", blocks.x.line(i, 3), next[i]);
        }
    }

    private static void loads() {
        House.sentence("a cell's WORD right behind the = makes it one: ; must come then");
        House house = House.of("cell x; thread A { r = x; }");
        House.due("kind", house.x.line(0, 0), 1);
        String[] signs = {"+ 1", "== 1", "& 1", "| 1", "* 1", "- 1", "< 1", ")", "x", "r", "1", ",", "into s", "}"};
        for (String sign : signs) {
            House.fault("cell x; thread A { r = x @" + sign + "; }", 2);
        }
        House.fault("cell x; thread A { r = x@", 2);
        House.sentence("An exp has LOCALS alone");
        House.fault("cell x; thread A { r = (@x); }", 3);
        House.fault("cell x; thread A { r = -@x; }", 3);
        House.fault("cell x; thread A { r = !@x; }", 3);
        House.fault("cell x; thread A { r = r + @x; }", 3);
        House.fault("cell x; thread A { x = @x; }", 3);
        House.sentence("of a cell and any exp a STORE, of a local and an exp a SETTING");
        House kinds = House.of("cell x; thread A { x = r; r = r; x = 1; r = 1; s = x; }");
        int[] due = {2, 0, 2, 0, 1};
        for (int i = 0; i < due.length; i++) {
            House.due("kind of line " + i, kinds.x.line(i, 0), due[i]);
        }
    }

    private static void namesWhereTheyCantBe() {
        House.sentence("3 a cell, lock or thread where it can't be (in an exp; behind 'into'; where a statement begins, but a cell)");
        String names = "cell c; lock l; thread T { } thread A { ";
        String[] words = {"c", "l", "T", "A"};
        for (String word : words) {
            House.fault(names + "r = 1 + @" + word + "; }", 3);
            House.fault(names + "c = @" + word + "; }", 3);
            House.fault(names + "cas c, @" + word + ", 1; }", 3);
            House.fault(names + "cas c, 1, @" + word + "; }", 3);
            House.fault(names + "add c, @" + word + "; }", 3);
            House.fault(names + "assert @" + word + "; }", 3);
            House.fault(names + "call w @" + word + "; }", 3);
            House.fault(names + "reply @" + word + "; }", 3);
            House.fault(names + "if @" + word + " { } }", 3);
            House.fault(names + "while @" + word + " { } }", 3);
            House.fault(names + "add c, 1 into @" + word + "; }", 3);
            House.fault(names + "cas c, 1, 2 into @" + word + "; }", 3);
        }
        House.of(names + "c = 1; }");
        House.fault(names + "@l = 1; }", 3);
        House.fault(names + "@T = 1; }", 3);
        House.fault(names + "@A = 1; }", 3);
        House.fault(names + "if 1 { @l = 1; } }", 3);
        House.fault(names + "r = @l; }", 3);
        House.fault(names + "r = @T; }", 3);
    }

    private static void wordsOfAnotherKind() {
        House.sentence("3 a WORD that is none of the kind wanted (a cell; a lock)");
        String names = "cell c; lock l; thread T { } thread A { r = 1; ";
        for (String word : "l T A r nobody".split(" ")) {
            House.fault(names + "cas @" + word + ", 1, 2; }", 3);
            House.fault(names + "add @" + word + ", 1; }", 3);
        }
        for (String word : "c T A r nobody".split(" ")) {
            for (String statement : "lock unlock wait wake wakeall".split(" ")) {
                House.fault(names + statement + " @" + word + "; }", 3);
            }
        }
    }

    private static void cells8() {
        House.sentence("4 too much: more than 8 cells (at the name)");
        String eight = "cell a; cell b volatile; cell c = 1; cell d; cell e; cell f; cell g; cell h; ";
        House.due("cells", House.of(eight + "lock l; thread A { }").x.count(3), 8);
        House.fault(eight + "cell @i;", 4);
        House.fault(eight + "cell @i volatile = 1", 4);
        House.fault(eight + "thread A { } cell @i $", 4);
    }

    private static void locks4() {
        House.sentence("4 too much: more than 4 locks (at the name)");
        String four = "lock a; lock b; lock c; lock d; ";
        House.due("locks", House.of(four + "cell x; thread A { }").x.count(4), 4);
        House.fault(four + "lock @e;", 4);
        House.fault(four + "cell x; lock @e", 4);
    }

    private static void threads4() {
        House.sentence("4 too much: more than 4 threads (at the name)");
        String four = "thread A { } thread B later { } thread C { } thread D { } ";
        House.due("threads", House.of(four + "cell x; lock l;").x.count(5), 4);
        House.fault(four + "thread @E { }", 4);
        House.fault(four + "thread @E later $", 4);
    }

    private static void locals6() {
        House.sentence("4 too much: more than 6 LOCALS of one thread (at the 7th where it first stands)");
        String six = "cell x; lock l; thread A { a = 1; b = 1; c = d; e = x; add x, 1 into f; ";
        House.of(six + "f = a + b + c + d + e + f; a = 1; cas x, a, f into b; reply f; call w e; if d { } }"
            + " thread B { a = 1; g = 1; h = i; j = k; } thread C { start D; } thread D later { }");
        House.fault(six + "@g = 1; }", 4);
        House.fault(six + "a = @g; }", 4);
        House.fault(six + "a = a + @g; }", 4);
        House.fault(six + "@g = x; }", 4);
        House.fault(six + "add x, 1 into @g; }", 4);
        House.fault(six + "cas x, 1, 2 into @g; }", 4);
        House.fault(six + "if @g { } }", 4);
        House.fault(six + "while (@g) { } }", 4);
        House.fault(six + "call w @g; }", 4);
        House.fault(six + "x = - @g; }", 4);
        House.fault(six + "} thread B { a = 1; b = 1; c = 1; d = 1; e = 1; f = 1; @g = 1; }", 4);
        // what is no local is not counted
        House.of(six + "call g; join G; lock l; x = 1; } thread G { }");
    }

    private static void statements100() {
        House.sentence("4 too much: more than 100 statements (at its first token)");
        String all = "cell x; lock l; thread A { " + House.times(99, "fence;");
        House.due("lines", House.of(all + "x = 1; }").x.count(6), 100);
        String[] statements = {"a = 1;", "x = 1;", "a = x;", "cas x, 1, 2;", "add x, 1;", "lock l;", "unlock l;", "wait l;", "wake l;",
            "wakeall l;", "start A;", "join A;", "fence;", "halt;", "assert 1;", "call w;", "reply;", "if 1 { }", "while 1 { }"};
        for (String statement : statements) {
            House.of(all + statement + " }");
            House.fault(all + "fence; @" + statement + " }", 4);
        }
        House.fault(all + "if 1 { @a = 1; } }", 4);
        House.fault(all + "while 1 { @halt; } }", 4);
        House.fault(all + "if 1 { } else { @halt; } }", 4);
        // of all threads together
        House.of("thread A { " + House.times(50, "fence;") + "} thread B { " + House.times(50, "fence;") + "} thread C { }");
        House.fault("thread A { " + House.times(50, "fence;") + "} thread B { " + House.times(50, "fence;") + "} thread C { @fence; }", 4);
        House.fault("thread A { " + House.times(50, "if 1 { } else { a = 1; }") + "@reply; }", 4);
    }

    private static void nodes400() {
        House.sentence("4 too much: more than 400 NODES (at its token)");
        House.due("nodes", House.of("thread A { " + NODES_399 + " r = 1; }").x.count(7), 400);
        House.due("nodes", House.of("thread A { " + NODES_399 + " r = s; }").x.count(7), 400);
        House.fault("thread A { " + NODES_399 + "r = 1 @+ 1; }", 4);
        House.fault("thread A { " + NODES_399 + "r = 1; r = @1; }", 4);
        House.fault("thread A { " + NODES_399 + "r = 1; r = @r; }", 4);
        House.fault("thread A { " + NODES_399 + "r = 1; r = @-1; }", 4);
        House.fault("thread A { " + NODES_399 + "r = 1; r = @!1; }", 4);
        House.fault("thread A { " + NODES_399 + "r = 1; r = (@1); }", 4);
        House.fault("thread A { " + NODES_399 + "r = - @1; }", 4);
        House.fault("thread A { " + NODES_399 + "r = ! @r; }", 4);
        for (String sign : "| & == != < <= > >= + - *".split(" ")) {
            House.fault("thread A { " + NODES_399 + "r = (1) @" + sign + " 1; }", 4);
            House.of("thread A { r = 1" + House.times(198, "+1") + "; r = 1 " + sign + " 1; }");
        }
        House.fault("thread A { " + NODES_399 + "} thread B { r = 1; assert @1; }", 4);
        House.fault("cell x; thread A { " + NODES_399 + "r = 1; cas x, @1, 1; }", 4);
        House.fault("cell x; thread A { " + NODES_399 + "cas x, 1, @1; }", 4);
        House.fault("cell x; thread A { " + NODES_399 + "r = 1; add x, @1; }", 4);
        House.fault("thread A { " + NODES_399 + "r = 1; call w @1; }", 4);
        House.fault("thread A { " + NODES_399 + "r = 1; reply @1; }", 4);
        House.fault("thread A { " + NODES_399 + "r = 1; if @1 { } }", 4);
        House.fault("thread A { " + NODES_399 + "r = 1; while @1 { } }", 4);
        // what is none goes on
        House.of("cell x = - 5; lock l; thread A { " + NODES_399 + "r = (((1))); lock l; fence; call w; reply; start A; join A; halt; } cell y = 7;");
    }

    private static void nodes(String statement, int due) {
        House house = House.of("cell x = - 7; lock l; thread A { " + statement + " }");
        House.due("nodes of " + statement, house.x.count(7), due);
    }

    private static void whatIsANode() {
        House.sentence("NODES (each NUMBER, WORD, operator, - ! of exps)");
        nodes("", 0);
        nodes("r = 1;", 1);
        nodes("r = s;", 1);
        nodes("r = - 1;", 2);
        nodes("r = !s;", 2);
        nodes("r = (((s)));", 1);
        nodes("r = - - ! ! 1;", 5);
        nodes("r = 1 - 1;", 3);
        nodes("r = 1 - - 1;", 4);
        nodes("r = 1 + 2 * 3 - s == 4 & 5 < 6 | 7 >= 8;", 17);
        nodes("x = 1;", 1);
        nodes("cas x, 1, r + 1 into r;", 4);
        nodes("add x, - r into r;", 2);
        nodes("lock l; unlock l; wait l; wake l; wakeall l; start A; join A; fence; halt;", 0);
        nodes("call w; reply;", 0);
        nodes("call w w; reply r;", 2);
        nodes("assert 1; if 1 { r = 1; } else { r = 1; } while 1 { r = 1; }", 6);
    }

    private static void blocksWithin8() {
        House.sentence("4 too much: a block within more than 8 others of its kind (a thread's own block counts; at the first token in it)");
        String[] opens = {"if 1 ", "while 1 ", "if 1 { } else "};
        for (String open : opens) {
            House house = House.of("thread A " + House.times(8, "{ " + open) + "{ halt; }" + House.times(8, "}"));
            int lines = house.x.count(6);
            House.due("level of the last line", house.x.line(lines - 1, 4), 8);
            String eight = "thread A " + House.times(8, "{ " + open);
            String[] deeper = {"{ if 1 ", "{ while 1 "};
            for (String ninth : deeper) {
                House.fault(eight + ninth + "@{ halt; }", 4);
                House.fault(eight + ninth + "@{ }", 4);
                House.fault(eight + ninth + "@{", 4);
                House.fault(eight + ninth + "@{ $", 4);
            }
        }
        // the second block of an if is within as many as the first
        House.of("thread A " + House.times(8, "{ if 1 ") + "{ } else { }" + House.times(8, "}"));
        House.fault("thread A " + House.times(8, "{ if 1 ") + "{ } else { if 1 @{", 4);
        // one behind another one is not within it
        House.of("thread A { " + House.times(12, "if 1 { } ") + House.times(12, "while 1 { halt; }") + "}");
        // an exp is of another kind
        House.of("thread A " + House.times(7, "{ if 1 ") + "{ if " + House.times(8, "(") + "1" + House.times(8, ")") + " { }"
            + House.times(8, "}"));
    }

    private static void expressionsWithin8() {
        House.sentence("4 too much: an exp (in brackets, behind - !) within more than 8 others of its kind (the exp of the statement counts)");
        String[] heads = {"r = ", "x = ", "add x, ", "cas x, ", "cas x, 1, ", "assert ", "call w ", "reply ", "if ", "while ", "r = 1 + ", "r = 1 & "};
        String[] nine = {House.times(9, "("), House.times(9, "-"), House.times(9, "!"), "-(-(-(-(-", "(!(!(!(!(", "((-((-((-"};
        for (String head : heads) {
            for (String deep : nine) {
                String end = head.startsWith("if") || head.startsWith("while") ? "{ }" : head.equals("cas x, ") ? ", 2;" : ";";
                String eight = deep.substring(1);
                House.fault("cell x; thread A { " + head + deep + "@1", 4);
                House.fault("cell x; thread A { " + head + deep + "@s", 4);
                House.fault("cell x; thread A { " + head + deep + "@(1", 4);
                House.fault("cell x; thread A { " + head + deep + "@-1", 4);
                String closed = eight.replaceAll("[^(]", "").replace('(', ')');
                House.of("cell x; thread A { " + head + eight + "1" + closed + end + " }");
            }
        }
        // operators alone go no deeper, nor do exps one behind another
        House.of("thread A { r = 1" + House.times(60, " + (1)") + House.times(30, " & -1") + "; }");
    }

    private static void leastOfOneToken() {
        House.sentence("Of one token the least.");
        String cells8 = "cell a; cell b; cell c; cell d; cell e; cell f; cell g; cell h; ";
        House.fault(cells8 + "cell @a;", 3);
        House.fault(cells8 + "cell @1;", 2);
        House.fault(cells8 + "cell @$;", 1);
        House.fault("lock a; lock b; lock c; lock d; lock @d;", 3);
        House.fault("thread A { } thread B { } thread C { } thread D { } thread @B { }", 3);
        House.fault("thread A { } thread B { } thread C { } thread D { } thread @{ }", 2);
        String all = "lock l; thread A { " + House.times(100, "fence;");
        House.fault(all + "@l = 1; }", 3);
        House.fault(all + "@A = 1; }", 3);
        House.fault(all + "@1; }", 2);
        House.fault(all + "@else; }", 2);
        House.fault(all + "@$", 1);
        House.fault(all + "@abcdefghi = 1; }", 1);
        House.of(all + "}");
        String full = "cell x; thread A { " + NODES_399 + "r = 1; ";
        House.fault(full + "assert @x; }", 3);
        House.fault(full + "assert @; }", 2);
        House.fault(full + "assert @1000; }", 1);
        House.fault("cell x; thread A { assert " + House.times(9, "(") + "@x; }", 3);
        House.fault("cell x; thread A { assert " + House.times(9, "(") + "@); }", 2);
        House.fault("cell x; thread A { assert " + House.times(9, "(") + "@1000; }", 1);
        House.fault("thread A " + House.times(9, "{ if 1 ") + "@; ", 2);
        House.fault("thread A " + House.times(9, "{ if 1 ") + "@", 2);
        House.fault("thread A " + House.times(9, "{ if 1 ") + "@$ ", 1);
        House.fault("cell x; lock l; thread A { a = b + c + d + e + f; add x, 1 into @l; }", 3);
        House.fault("cell x; thread A { a = b + c + d + e + f; add x, 1 into @1; }", 2);
        // a local that is one too many, in a line that is one too many
        House.fault("thread A { a = b + c + d + e + f; " + House.times(99, "fence;") + "@g = 1; }", 4);
    }

    private static void noThreadsName() {
        House.sentence("Behind all: 5 a WORD of 'start', 'join' that is no thread's (the first such).");
        String names = "cell c; lock l; thread A { r = 1; ";
        for (String word : "c l r nobody".split(" ")) {
            House.fault(names + "start @" + word + "; }", 5);
            House.fault(names + "join @" + word + "; }", 5);
        }
        House.fault(names + "join A; start B; join @X; start Y; } thread B { start Z; }", 5);
        House.fault(names + "while 1 { start @X; } } thread B { join Y; }", 5);
        House.fault(names + "start X; @$", 1);
        House.fault(names + "start X; } @;", 2);
        House.fault(names + "start X; } cell @c;", 3);
        House.fault(names + "start X; s = t + u + v + w; @y = 1; }", 4);
        House.fault(names + "join X; @", 2);
        House house = new House();
        House.due("program", house.read(names + "start X; }"), 5);
        House.due("there is none", house.x.begin(0), House.BAD);
        House.due("lines", house.x.count(6), 0);
    }

    private static void numbersOfLines() {
        House.sentence("LINES are the statements, 0, 1, .. as they begin in the text.");
        House house = House.of("thread A { if 1 { while 1 { fence; } halt; } else { reply; } call w; } thread B { assert 1; }");
        int[] due = {17, 18, 12, 13, 16, 15, 14};
        House.due("lines", house.x.count(6), due.length);
        for (int i = 0; i < due.length; i++) {
            House.due("kind of line " + i, house.x.line(i, 0), due[i]);
            House.due("thread of line " + i, house.x.line(i, 1), i == 6 ? 1 : 0);
        }
    }

    private static void programEmptiesTheText() {
        House.sentence("The text, which is empty then, is read as a program: 0, or its fault (there is no program then).");
        House house = new House();
        House.due("program of no text", house.x.program(), 0);
        House.due("begin", house.x.begin(0), 0);
        House.due("program", house.read("cell x; thread A { x = 1; }"), 0);
        House.due("bytes", house.x.count(2), 0);
        House.due("lines", house.x.count(6), 1);
        House.due("faulty program", house.read("cell x; thread A { x = ; }"), 2);
        House.due("bytes", house.x.count(2), 0);
        House.due("lines", house.x.count(6), 0);
        House.due("begin", house.x.begin(0), House.BAD);
        House.due("explore", house.x.explore(0, false), House.BAD);
        House.due("line", house.x.line(0, 0), House.BAD);
        House.due("rewrite", house.x.rewrite(1, 0), House.BAD);
        House.due("sound", house.x.sound(0), House.NONE);
        House.due("program of no text", house.x.program(), 0);
        House.due("begin", house.x.begin(0), 0);
        House.due("cells", house.x.count(3), 0);
    }

    private static void programTakesAllAway() {
        House.sentence("What was explored, the run, the rewritten program are gone.");
        String text = "cell x; thread A { x = 1; x = 2; }";
        String[] texts = {text, "", "cell"};
        for (String next : texts) {
            House house = House.of(text);
            house.x.rewrite(1, 0);
            House.due("sound", house.x.sound(0), 1);
            House.due("replay", house.x.replay(1), 0);
            house.read(next);
            House.due("explored", house.x.explored(0), House.BAD);
            House.due("outcome", house.x.outcome(0, 0), House.BAD);
            House.due("race", house.x.race(-1, 0), House.BAD);
            House.due("judge", house.x.judge(), House.BAD);
            House.due("replay", house.x.replay(0), House.BAD);
            House.due("ready", house.x.ready(0), House.BAD);
            House.due("thread", house.x.thread(0, 0), House.BAD);
            House.due("cell", house.x.cell(0), House.NO_VALUE);
            House.due("steps", house.x.step(-1, 0), House.BAD);
            House.due("linear", house.x.linear(0), House.BAD);
            House.due("sound", house.x.sound(0), House.NONE);
            House.due("drop", house.x.drop(), 0);
            if (next.equals(text)) {
                // it can be left out again: nothing was rewritten
                House.due("rewrite", house.x.rewrite(1, 0), 1);
            }
        }
    }

    private static void countsWithoutProgram() {
        House.sentence("of the program (0 without): 3 cells, 4 locks, 5 threads, 6 LINES, 7 NODES.");
        House house = new House();
        for (int what = 3; what < 8; what++) {
            House.due("count(" + what + ")", house.x.count(what), 0);
        }
        int[] due = {3, 2, 2, 3, 4};
        House.due("program", house.read("cell a; cell b; cell c; lock l; lock m; thread A { r = 1; s = r + 2; } thread B later { fence; }"), 0);
        for (int what = 3; what < 8; what++) {
            House.due("count(" + what + ")", house.x.count(what), due[what - 3]);
        }
        House.due("a program with a fault at its end", house.read("cell a; lock l; thread A { r = 1; } thread B { start C; }"), 5);
        for (int what = 3; what < 8; what++) {
            House.due("count(" + what + ")", house.x.count(what), 0);
        }
    }

    private static void countOfNoSuchNumber() {
        House.sentence("count: BAD: another number.");
        House[] houses = {new House(), House.of("cell x; thread A { x = 1; }")};
        int[] others = {-1, 8, 9, 100, -100, Integer.MIN_VALUE, Integer.MAX_VALUE};
        for (House house : houses) {
            for (int what : others) {
                House.due("count(" + what + ")", house.x.count(what), House.BAD);
            }
        }
    }

    private static void faultOfTheLast() {
        House.sentence("0 the fault of the last program(), judge() (0 without), 1 its place (NONE without)");
        House house = new House();
        due(house, 0, House.NONE);
        house.read(" cell");
        due(house, 2, 5);
        house.read("cell x; thread A { x = 1; }");
        due(house, 0, House.NONE);
        house.x.explore(0, false);
        House.due("judge", house.law("always  nobody"), -13);
        due(house, 3, 8);
        house.x.explore(1, false);
        house.x.begin(0);
        due(house, 3, 8);
        House.due("judge", house.law("always 1"), 1);
        due(house, 0, House.NONE);
        House.due("judge", house.law("always 0"), 0);
        due(house, 0, House.NONE);
        house.read("thread");
        due(house, 2, 6);
        house.read("");
        due(house, 0, House.NONE);
    }

    private static void due(House house, int fault, int place) {
        House.due("count(0)", house.x.count(0), fault);
        House.due("count(1)", house.x.count(1), place);
    }

    private static void lineOfNoSuch() {
        House.sentence("line: BAD: none such.");
        House none = new House();
        House.due("line without a program", none.x.line(0, 0), House.BAD);
        House house = House.of("thread A { halt; halt; }");
        int[] numbers = {-1, 2, 99, 100, Integer.MIN_VALUE, Integer.MAX_VALUE};
        for (int i : numbers) {
            for (int what = -1; what < 6; what++) {
                House.due("line(" + i + ", " + what + ")", house.x.line(i, what), House.BAD);
            }
        }
        int[] others = {-1, 5, 6, Integer.MIN_VALUE, Integer.MAX_VALUE};
        for (int what : others) {
            House.due("line(1, " + what + ")", house.x.line(1, what), House.BAD);
        }
        House.due("line(1, 0)", house.x.line(1, 0), 13);
        House.due("line(0, 0) of an empty program", House.of("").x.line(0, 0), House.BAD);
    }

    private static void whatLinesName() {
        House.sentence("2 the cell, lock, thread that it names (NONE), 3 the LOCAL that it sets (NONE)");
        House house = House.of("cell c; cell d; lock k; lock l; thread A { a = 1; b = d; d = a; cas d, a, b; cas d, a, b into c1; add d, a;"
            + " add d, a into d1; lock l; unlock l; wait l; wake l; wakeall l; start B; join B; fence; halt; assert a; call a a; reply a;"
            + " if a { } while a { } } thread B { a1 = 1; e = d; add c, 1 into a1; }");
        int none = House.NONE;
        int[][] due = {{none, 0}, {1, 1}, {1, none}, {1, none}, {1, 2}, {1, none}, {1, 3}, {1, none}, {1, none}, {1, none}, {1, none},
            {1, none}, {1, none}, {1, none}, {none, none}, {none, none}, {none, none}, {none, none}, {none, none}, {none, none},
            {none, none}, {none, 0}, {1, 1}, {0, 0}};
        for (int i = 0; i < due.length; i++) {
            House.due("line(" + i + ", 2)", house.x.line(i, 2), due[i][0]);
            House.due("line(" + i + ", 3)", house.x.line(i, 3), due[i][1]);
        }
    }

    private static void blocksOfLines() {
        House.sentence("4 how many blocks it is within, less that of the thread.");
        House house = House.of("thread A { fence; if 1 { fence; while 1 { fence; } fence; } else { if 1 { fence; } } fence; } thread B { fence; }");
        int[] due = {0, 0, 1, 1, 2, 1, 1, 2, 0, 0};
        for (int i = 0; i < due.length; i++) {
            House.due("line(" + i + ", 4)", house.x.line(i, 4), due[i]);
        }
    }
}
