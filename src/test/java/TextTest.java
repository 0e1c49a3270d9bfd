/** Promises 1 to 4: new objects, texts, programs and their faults. */
public final class TextTest {
    public static void main(String[] args) {
        newObject();
        constants();
        feedAndEnd();
        fullText();
        byteOrder();
        badBytes();
        tokensThatCantCome();
        badNames();
        tooMuch();
        leastFault();
        noThread();
        noFault();
        programsAreApart();
        programForgets();
        House.finish();
    }

    private static void constants() {
        House.due("BAD", TurnHouse.BAD, -1);
        House.due("NONE", TurnHouse.NONE, -2);
        House.due("FULL", TurnHouse.FULL, -3);
    }

    private static void newObject() {
        House.sentence("No text, no program; nothing explored, no run.");
        nothingIsThere(new TurnHouse(), 0, House.NONE);
        House.sentence("");
    }

    /** What is answered without a program, a run, anything explored. */
    private static void nothingIsThere(TurnHouse x, int fault, int place) {
        House.due("count(0)", x.count(0), fault);
        House.due("count(1)", x.count(1), place);
        for (int what = 2; what < 8; what++) {
            House.due("count(" + what + ")", x.count(what), 0);
        }
        House.due("count(8)", x.count(8), House.BAD);
        House.due("count(-1)", x.count(-1), House.BAD);
        House.due("line", x.line(0, 0), House.BAD);
        House.due("begin", x.begin(0), House.BAD);
        House.due("ready", x.ready(0), House.BAD);
        House.due("turn", x.turn(0, 0), House.BAD);
        House.due("thread", x.thread(0, 0), House.BAD);
        House.due("local", x.local(0, 0), House.BAD);
        House.due("cell", x.cell(0), House.NO_VALUE);
        House.due("seen", x.seen(0, 0), House.NO_VALUE);
        House.due("held", x.held(0, 0), House.BAD);
        House.due("step", x.step(-1, 0), House.BAD);
        House.due("before", x.before(0, 0), House.BAD);
        House.due("runRace", x.runRace(-1, 0), House.BAD);
        House.due("linear", x.linear(0), House.BAD);
        House.due("ordered", x.ordered(0), House.NONE);
        House.due("explore", x.explore(0, false), House.BAD);
        House.due("explored", x.explored(0), House.BAD);
        House.due("outcome", x.outcome(0, 0), House.BAD);
        House.due("outcomeCell", x.outcomeCell(0, 0), House.NO_VALUE);
        House.due("outcomeLocal", x.outcomeLocal(0, 0, 0), House.NO_VALUE);
        House.due("schedule", x.schedule(0, -1), House.BAD);
        House.due("replay", x.replay(0), House.BAD);
        House.due("chances", x.chances(0, 1, 1), House.BAD);
        House.due("race", x.race(-1, 0), House.BAD);
        House.due("guard", x.guard(0), House.BAD);
        House.due("ring", x.ring(0), House.BAD);
        House.due("order", x.order(0, 0), House.BAD);
        House.due("judge", x.judge(), House.BAD);
        House.due("where", x.where(), House.NONE);
        House.due("rewrite", x.rewrite(0, 0), House.BAD);
        House.due("drop", x.drop(), 0);
        House.due("sound(0)", x.sound(0), House.NONE);
        House.due("sound(3)", x.sound(3), House.BAD);
        House.due("sound(-1)", x.sound(-1), House.BAD);
        House.due("gained", x.gained(), House.NONE);
    }

    private static void feedAndEnd() {
        TurnHouse x = new TurnHouse();
        House.due("end of nothing", x.end(0), House.BAD);
        House.due("feed", x.feed(1, 2, 3, 4, 5), 20);
        House.due("end(21)", x.end(21), House.BAD);
        House.due("end(-1)", x.end(-1), House.BAD);
        House.due("end(20)", x.end(20), 20);
        House.due("end(19)", x.end(19), 19);
        House.due("end of 19", x.end(0), House.BAD);
        House.due("count(2)", x.count(2), 19);
        House.due("feed again", x.feed(1, 2, 3, 4, 5), 39);
        House.due("end(0)", x.end(0), 19);
    }

    private static void fullText() {
        TurnHouse x = new TurnHouse();
        for (int i = 1; i <= 200; i++) {
            House.due("feed " + i, x.feed(538976288, 538976288, 538976288, 538976288, 538976288), 20 * i);
        }
        House.due("feed of a full text", x.feed(0, 0, 0, 0, 0), House.FULL);
        House.due("count(2)", x.count(2), 4000);
        House.due("end(19)", x.end(19), 3999);
        House.due("feed of 3999", x.feed(0, 0, 0, 0, 0), House.FULL);
        House.due("program() of blanks", x.program(), 0);
        House.due("count(2) of none", x.count(2), 0);
        // each byte is a token
        House.fault("@" + House.times(4000, ";"), 2);
        House.fault("thread A{r=" + House.times(9, "(") + "@" + House.times(1990, "1*"), 4);
        House house = new House();
        House.due("program()", house.read("thread A{" + House.times(97, "r=1;") + House.times(900, "#()\n") + "}#"), 0);
    }

    private static void byteOrder() {
        TurnHouse x = new TurnHouse();
        // "cell", " x ;", "lock", " l; ", 9, 10, 13 and a blank
        x.feed(0x63656c6c, 0x2078203b, 0x6c6f636b, 0x206c3b20, 0x090a0d20);
        House.due("program()", x.program(), 0);
        House.due("cells", x.count(3), 1);
        House.due("locks", x.count(4), 1);
        x.feed(0x63656c6c, 0x2078203b, 0x20202020, 0x20202020, 0x2020ff20);
        House.due("program() with 255", x.program(), 1);
        House.due("place of 255", x.count(1), 18);
    }

    private static void badBytes() {
        House.fault("cell @$;", 1);
        House.fault("@_x", 1);
        House.fault("@\u00e9", 1);
        House.fault("cell x; @\u0000", 1);
        House.fault("cell @verylongw;", 1);
        House.fault("thread A { r = @1234; }", 1);
        House.fault("cell x = @1000;", 1);
        House.fault("cell x;@\u000b", 1);
        // a fault ahead of a bad byte is met first
        House.fault("cell @; $", 2);
        House.fault("cell x @lock $", 2);
    }

    private static void tokensThatCantCome() {
        House.fault("cell @", 2);
        House.fault("cell x @", 2);
        House.fault("cell x # to the end;@", 2);
        House.fault("cell @5;", 2);
        House.fault("cell x @y;", 2);
        House.fault("@;", 2);
        House.fault("cell @into;", 2);
        House.fault("cell @leads;", 2);
        House.fault("cell @stuck;", 2);
        House.fault("cell x = @;", 2);
        House.fault("cell x = - @- 1;", 2);
        House.fault("cell x = 1 @volatile;", 2);
        House.fault("lock l @volatile;", 2);
        House.fault("thread A @;", 2);
        House.fault("thread A later @later { }", 2);
        House.fault("thread A { @", 2);
        House.fault("thread A { r = 1 @}", 2);
        House.fault("thread A { r @== 1; }", 2);
        House.fault("thread A { r = 1 < 2 @< 3; }", 2);
        House.fault("thread A { r = 1 @. 2; }", 2);
        House.fault("thread A { r = (1 @; }", 2);
        House.fault("thread A { r = 1 & @& 2; }", 2);
        House.fault("thread A { r = @+ 1; }", 2);
        House.fault("thread A { r = @ended A; }", 2);
        House.fault("thread A { r = 12@ab; }", 2);
        House.fault("thread A { @else { } }", 2);
        House.fault("thread A { if 1 { } else @if 1 { } }", 2);
        House.fault("thread A { while 1 @r = 1; }", 2);
        House.fault("thread A { fence @1; }", 2);
        House.fault("thread A { halt @}", 2);
        House.fault("thread A { assert @; }", 2);
        House.fault("thread A { call @; }", 2);
        House.fault("thread A { call w 1 @2; }", 2);
        House.fault("thread A { start @; } ", 2);
        House.fault("thread A { lock @5; } ", 2);
        House.fault("cell x; thread A { cas x @1, 2; }", 2);
        House.fault("cell x; thread A { cas x, 1 @; }", 2);
        House.fault("cell x; thread A { add x, 1 into @5; }", 2);
        House.fault("cell x; thread A { add x, 1 into @; }", 2);
        House.fault("cell x; thread A { r = x @+ 1; }", 2);
        House.fault("thread A { } @}", 2);
        House.fault("thread A { @cell x; }", 2);
        House.fault("@r = 1;", 2);
    }

    private static void badNames() {
        House.fault("cell x; cell @x;", 3);
        House.fault("cell x; lock @x;", 3);
        House.fault("lock x; thread @x { }", 3);
        House.fault("thread A { } thread @A { }", 3);
        House.fault("thread A { } cell @A;", 3);
        House.fault("thread A { r = 1; } cell @r;", 3);
        House.fault("thread A { r = 1; } lock @r;", 3);
        House.fault("thread A { B = 1; } thread @B { }", 3);
        House.fault("thread A { start B; B = 1; } thread @B { }", 3);
        House.fault("cell x; thread A { r = 1 + @x; }", 3);
        House.fault("cell x; thread A { r = (@x); }", 3);
        House.fault("cell x; thread A { if @x { } }", 3);
        House.fault("cell x; cell y; thread A { x = @y; }", 3);
        House.fault("lock l; thread A { @l = 1; }", 3);
        House.fault("lock l; thread A { r = @l; }", 3);
        House.fault("thread A { @A = 1; }", 3);
        House.fault("thread A { } thread B { r = @A; }", 3);
        House.fault("cell x; thread A { add x, 1 into @x; }", 3);
        House.fault("cell x; lock l; thread A { cas x, 1, 2 into @l; }", 3);
        House.fault("cell x; thread A { add x, 1 into @A; }", 3);
        House.fault("thread A { cas @r, 1, 1; }", 3);
        House.fault("lock l; thread A { add @l, 1; }", 3);
        House.fault("thread A { lock @r; }", 3);
        House.fault("cell x; thread A { wake @x; }", 3);
        House.fault("thread A { unlock @l; } lock l;", 3);
    }

    private static void tooMuch() {
        House.fault("cell a; cell b; cell c; cell d; cell e; cell f; cell g; cell h; cell @i;", 4);
        House.fault("lock a; lock b; lock c; lock d; lock @e;", 4);
        House.fault("thread A { } thread B { } thread C { } thread D { } thread @E { }", 4);
        House.fault("thread A { a = b + c; d = e; f = 1; a = @g; }", 4);
        House.fault("thread A { a = b + c; d = e; f = 1; @g = 1; }", 4);
        House.fault("cell x; thread A { a = b + c; d = e; f = 1; add x, 1 into @g; }", 4);
        House.fault("thread A { " + House.times(100, "a=1;") + " @a = 1; }", 4);
        House.fault("thread A { " + House.times(60, "fence;") + "} thread B { " + House.times(40, "a=1;") + "@halt; }", 4);
        String nodes = "r = 1" + House.times(199, "+1") + ";";
        // 399 nodes and two more, the last of which is one too many
        House.fault("thread A { " + nodes + "r = r @* 1; }", 4);
        House.fault("thread A { " + nodes + "r = -@1; }", 4);
        House.fault("thread A { " + nodes + "r = 1; r = @r; }", 4);
        House.fault("thread A { " + nodes + "r = 1; assert @!1; }", 4);
        House.fault("thread A " + House.times(9, "{ if 1 ") + "@{ } ", 4);
        House.fault("thread A " + House.times(9, "{ while 1 ") + "@{ } ", 4);
        House.fault("thread A { " + House.times(8, "if 1 { } else { ") + "if 1 @{ } ", 4);
        House.fault("thread A { r = " + House.times(9, "(") + "@1", 4);
        House.fault("thread A { r = " + House.times(9, "-") + "@1", 4);
        House.fault("thread A { r = " + House.times(4, "!(") + "-@r", 4);
        House.fault("thread A { if " + House.times(9, "(") + "@(1", 4);
        House.fault("cell x; thread A { x = " + House.times(9, "(") + "@1", 4);
        House.fault("cell x; thread A { cas x, " + House.times(9, "(") + "@1", 4);
        House.fault("cell x; thread A { cas x, 1, " + House.times(9, "(") + "@1", 4);
        House.fault("thread A { call w " + House.times(9, "(") + "@1", 4);
    }

    private static void leastFault() {
        // deep enough for 4, but what stands there is worse still
        House.fault("cell x; thread A { r = " + House.times(9, "(") + "@x", 3);
        House.fault("thread A { r = " + House.times(9, "(") + "@)", 2);
        House.fault("thread A { r = " + House.times(9, "(") + "@$", 1);
        House.fault("thread A " + House.times(9, "{ if 1 ") + "@r = 1;", 2);
        House.fault("lock l; thread A { " + House.times(100, "a=1;") + " @l = 1; }", 3);
        House.fault("thread A { " + House.times(100, "a=1;") + " @; }", 2);
        House.fault("cell a; cell b; cell c; cell d; cell e; cell f; cell g; cell h; cell @a;", 3);
        House.fault("lock a; lock b; lock c; lock d; lock @cas;", 2);
        String nodes = "r = 1" + House.times(199, "+1") + ";";
        House.fault("cell x; thread A { " + nodes + "r = 1; assert @x; }", 3);
    }

    private static void noThread() {
        House.fault("thread A { start @B; }", 5);
        House.fault("thread A { join @r; r = 1; }", 5);
        House.fault("cell x; thread A { start @x; start y; }", 5);
        House.fault("thread A { start B; join @C; } thread B { join D; }", 5);
        House.fault("thread A { start B; } cell @", 2);
        // a word of start is no local, so that a cell may have its name
        House.fault("thread A { start @B; } cell B;", 5);
    }

    private static void noFault() {
        House.of("");
        House.of(" # nothing\n\t\r ");
        House.of("cell x;# a remark { $ \ncell y;# another");
        House.of("thread A { start B; join B; } thread B later { start B; }");
        House.of("cell write; thread A { call write; call A 1; call r; } cell r;");
        House.of("cell eightlet; cell a_1; cell azAZ09_Z; cell Z; cell z; cell A0;");
        String deep = House.times(8, "(") + "1" + House.times(8, ")");
        House.of("cell x; thread A { cas x, " + deep + ", " + deep + "; x = " + deep + "; reply " + deep + "; assert " + deep + "; }");
        House.of("thread A { r = " + House.times(8, "(") + "1" + House.times(8, ")") + "; r = --------1; }");
        House.of("thread A " + House.times(8, "{ if 1 ") + "{ }" + House.times(8, "}"));
        House.of("thread A { " + House.times(100, "a=1;") + " }");
        House.of("thread A { r = 1" + House.times(199, "+1") + "; }");
        House.of("thread A { a = b + c; d = e; f = 1; a = b; } thread B { a = g; }");
        House.of("cell a; cell b; cell c; cell d; cell e; cell f; cell g; cell h;"
            + "lock i; lock j; lock k; lock l; thread A { } thread B { } thread C { } thread D { }");
        House.of("cell x=-5;cell y volatile=999;thread A{r=-1*!2<=3&(4|5);if r{}else{}while 0{}}");
    }

    /** Nothing of a program is left when another one is read. */
    private static void programsAreApart() {
        House house = House.of("cell x volatile = 7; cell y; lock l; thread A later { p = 1 + 2; } "
            + "thread B { lock l; if q { r = y; } else { } }");
        int[] due = {0, House.NONE, 0, 2, 1, 2, 4, 4};
        for (int what = 0; what < due.length; what++) {
            House.due("count(" + what + ")", house.x.count(what), due[what]);
        }
        House.due("program", house.read("cell y; thread B { y = 1; if 1 { } } thread x { s = y; }"), 0);
        int[] next = {0, House.NONE, 0, 1, 0, 2, 3, 2};
        for (int what = 0; what < next.length; what++) {
            House.due("count(" + what + ")", house.x.count(what), next[what]);
        }
        House.due("steps", house.x.begin(1), 2);
        House.due("y", house.x.cell(0), 0);
        House.due("no x", house.x.cell(1), House.NO_VALUE);
        house.turns(0);
        house.readySteps(0, 9, 10);
        house.turns(0);
        house.thread(0, 4, House.NONE, 0);
        House.due("no q", house.x.local(0, 0), House.NO_VALUE);
        House.due("s", house.x.local(1, 0), 0);
        House.due("only s", house.x.local(1, 1), House.NO_VALUE);
    }

    private static void programForgets() {
        House house = House.of("cell x; thread A { call write 1; reply; r = x; r = x; }");
        house.begin(0, 0, 0);
        House.due("linear", house.x.linear(0), 1);
        house.x.explore(0, false);
        house.law("always x == 0", 1, House.NONE);
        house.law("never x == 0", 0, 0);
        House.due("rewrite", house.x.rewrite(1, 2), 1);
        House.due("program", house.read("cell"), 2);
        House.due("ordered goes on", house.x.ordered(0), 0);
        House.due("none ordered", house.x.ordered(1), House.NONE);
        House.due("where", house.x.where(), House.NONE);
        House fresh = new House();
        House.due("program", fresh.read("cell"), 2);
        nothingIsThere(fresh.x, 2, 4);
        House again = House.of("thread A { r = 1; }");
        House.due("begin", again.x.begin(0), 1);
        House.due("explore", again.x.explore(0, false), 2);
        House.due("program", again.read(""), 0);
        House.due("ready", again.x.ready(0), House.BAD);
        House.due("explored", again.x.explored(0), House.BAD);
        House.due("threads", again.x.count(5), 0);
        House.due("begin of an empty program", again.x.begin(0), 0);
        for (int way = 0; way < 3; way++) {
            House.due("explore of an empty program", again.x.explore(way, false), 1);
            House.due("ends", again.x.explored(2), 1);
            House.due("sort", again.x.outcome(0, 0), 0);
            House.due("switches", again.x.outcome(0, 2), 0);
        }
        House.due("explore", again.x.explore(0, false), 1);
        House.due("chances", again.x.chances(0, 3, 2), 4);
    }
}
