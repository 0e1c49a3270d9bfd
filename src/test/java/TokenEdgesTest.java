/** Edges of section 1 and of promises 2 and 3: each test goes by one sentence of the document. */
public final class TokenEdgesTest {
    private static final int BLANKS = 0x20202020;
    private static final String SIGNS = "{}();,=+-*<>&|!.";

    public static void main(String[] args) {
        textOf4000Bytes();
        feedAbove4000();
        feedTellsTheHighestFirst();
        feedTellsHowMany();
        endOfTheLastTwenty();
        endWithAnotherN();
        endWithFewerThanTwenty();
        blanks();
        noOtherBlanks();
        remarks();
        blanksPartTokens();
        tokensTakeAllTheyCan();
        wordsOfLettersDigitsAndLines();
        wordsOfEight();
        numbersOfThreeDigits();
        everyByte();
        House.finish();
    }

    private static int feedBlanks(TurnHouse x) {
        return x.feed(BLANKS, BLANKS, BLANKS, BLANKS, BLANKS);
    }

    private static void textOf4000Bytes() {
        House.sentence("THE TEXT has up to 4,000 bytes.");
        House last = new House();
        House.due("program of 4,000 bytes", last.read(House.times(3993, " ") + "lock l;"), 0);
        House.due("locks", last.x.count(4), 1);
        House.fault(House.times(3999, " ") + "@;", 2);
        House.fault(House.times(3999, " ") + "@$", 1);
        // the end of a text of 4,000 bytes
        House.fault(House.times(3996, "\n") + "lock@", 2);
        House.fault("lock #" + House.times(3994, "x") + "@", 2);
        House.fault("cell @" + House.times(3995, "x"), 1);
        House.fault("cell x = @" + House.times(3991, "1"), 1);
        // as many tokens as bytes
        House.fault("@" + House.times(4000, "("), 2);
    }

    private static void feedAbove4000() {
        House.sentence("FULL, changing nothing: above 4,000.");
        for (int over = 0; over <= 20; over++) {
            House house = new House();
            house.feed("lock l;" + House.times(3973 + over, " "));
            House.due("bytes", house.x.count(2), 3980 + over);
            House.due("feed to " + (4000 + over), house.x.feed(-1, -1, -1, -1, -1), over == 0 ? 4000 : House.FULL);
            House.due("bytes behind it", house.x.count(2), over == 0 ? 4000 : 3980 + over);
            House.due("program", house.x.program(), over == 0 ? 1 : 0);
            House.due("feed of an empty text", feedBlanks(house.x), 20);
        }
    }

    private static void feedTellsTheHighestFirst() {
        House.sentence("Twenty bytes come behind the text, the highest of each number first");
        TurnHouse x = new TurnHouse();
        x.feed(('l' << 24) + ('o' << 16) + ('c' << 8) + 'k', (' ' << 24) + ('a' << 16) + ('b' << 8) + 'c',
            ('d' << 24) + ('e' << 16) + ('f' << 8) + 'g', ('h' << 24) + (';' << 16) + ('\n' << 8) + '#', 0x80FF007F);
        House.due("program", x.program(), 0);
        House.due("locks", x.count(4), 1);
        // a byte above 127 makes its number less than 0, and leaves the others as they are
        for (int i = 0; i < 20; i++) {
            TurnHouse one = new TurnHouse();
            int[] numbers = {BLANKS, BLANKS, BLANKS, BLANKS, BLANKS};
            int shift = 24 - 8 * (i % 4);
            numbers[i / 4] = numbers[i / 4] & ~(255 << shift) | 200 << shift;
            one.feed(numbers[0], numbers[1], numbers[2], numbers[3], numbers[4]);
            House.due("program with byte " + i, one.program(), 1);
            House.due("its place", one.count(1), i);
        }
    }

    private static void feedTellsHowMany() {
        House.sentence("feed: how many it has.");
        TurnHouse x = new TurnHouse();
        House.due("none", x.count(2), 0);
        for (int i = 1; i <= 200; i++) {
            House.due("feed", feedBlanks(x), 20 * i);
        }
        House.due("bytes", x.count(2), 4000);
    }

    private static void endOfTheLastTwenty() {
        House.sentence("Of the last twenty bytes of the text the first n (0 .. 20) stay: how many it has.");
        for (int n = 0; n <= 20; n++) {
            House house = new House();
            house.x.feed(BLANKS, BLANKS, BLANKS, BLANKS, BLANKS);
            // ; is a token in each place
            house.x.feed(0x3b3b3b3b, 0x3b3b3b3b, 0x3b3b3b3b, 0x3b3b3b3b, 0x3b3b3b3b);
            House.due("end(" + n + ")", house.x.end(n), 20 + n);
            House.due("bytes", house.x.count(2), 20 + n);
            House.due("program", house.x.program(), n == 0 ? 0 : 2);
        }
        House twice = new House();
        twice.feed("lock l;");
        House.due("bytes", twice.x.count(2), 7);
        feedBlanks(twice.x);
        House.due("end(1)", twice.x.end(1), 8);
        feedBlanks(twice.x);
        House.due("end(0)", twice.x.end(0), 8);
        House.due("program", twice.x.program(), 0);
        House.due("locks", twice.x.count(4), 1);
        // twenty are there exactly, and forty, of which the last twenty count
        TurnHouse x = new TurnHouse();
        feedBlanks(x);
        House.due("end(0) of twenty", x.end(0), 0);
        feedBlanks(x);
        feedBlanks(x);
        House.due("end(0) of forty", x.end(0), 20);
        House.due("end(0) of twenty", x.end(0), 0);
    }

    private static void endWithAnotherN() {
        House.sentence("BAD: another n");
        TurnHouse x = new TurnHouse();
        feedBlanks(x);
        feedBlanks(x);
        int[] others = {-1, 21, 22, 40, -20, Integer.MIN_VALUE, Integer.MAX_VALUE};
        for (int n : others) {
            House.due("end(" + n + ")", x.end(n), House.BAD);
            House.due("bytes", x.count(2), 40);
        }
    }

    private static void endWithFewerThanTwenty() {
        House.sentence("BAD: fewer than twenty are there.");
        TurnHouse x = new TurnHouse();
        for (int n = 0; n <= 20; n++) {
            House.due("end(" + n + ") of none", x.end(n), House.BAD);
        }
        feedBlanks(x);
        House.due("end(19)", x.end(19), 19);
        for (int n = 0; n <= 20; n++) {
            House.due("end(" + n + ") of 19", x.end(n), House.BAD);
        }
        House.due("bytes", x.count(2), 19);
    }

    private static void blanks() {
        House.sentence("BLANKS are 9, 10, 13, 32");
        int[] blanks = {9, 10, 13, 32};
        for (int blank : blanks) {
            char b = (char) blank;
            House house = new House();
            House.due("program with " + blank, house.read(b + "cell" + b + b + "x" + b + "=" + b + "-" + b + "5" + b + ";" + b), 0);
            House.due("cells", house.x.count(3), 1);
            house.x.begin(0);
            House.due("x", house.x.cell(0), -5);
        }
    }

    private static void noOtherBlanks() {
        House.sentence("BLANKS are 9, 10, 13, 32 (no other byte is one)");
        int[] others = {0, 1, 8, 11, 12, 14, 28, 31, 127, 128, 133, 160, 255};
        for (int other : others) {
            House.fault("cell x;@" + (char) other + "lock l;", 1);
            House.fault("cell@" + (char) other + "x;", 1);
        }
    }

    private static void remarks() {
        House.sentence("all from # to the next 10 (or the end)");
        House house = House.of("#\ncell x;#");
        House.due("cells", house.x.count(3), 1);
        House.due("a remark has anything", house.read("cell a;# $ \u00ff # \t ; cell b;\ncell c;"), 0);
        House.due("cells", house.x.count(3), 2);
        // 13 does not end a remark
        House.due("13 in a remark", house.read("cell a;# cell b;\rcell c;\ncell d;"), 0);
        House.due("cells", house.x.count(3), 2);
        // a remark parts tokens
        House.due("a remark between", house.read("cell#\nx#\n;"), 0);
        House.fault("@ce#\nll x;", 2);
        House.fault("thread A { r =#\n@= 1; }", 2);
        House.fault("cell x # ;@", 2);
        House.fault("# $\n@$", 1);
    }

    private static void blanksPartTokens() {
        House.sentence("they part tokens, and are left out.");
        House.fault("thread A { r = @= 1; }", 2);
        House.fault("thread A { assert 1 < @= 2; }", 2);
        House.fault("thread A { assert 1 > @= 2; }", 2);
        House.fault("thread A { assert 1 @! = 2; }", 2);
        House.fault("thread A { assert 1 @= = 2; }", 2);
        House.fault("thread A { r = 12 @3; }", 2);
        House.fault("thread A { r @s = 1; }", 2);
        House.fault("@ce ll x;", 2);
    }

    private static void tokensTakeAllTheyCan() {
        House.sentence("Tokens take as many bytes as they can");
        House.fault("thread A { assert 1==@=1; }", 2);
        House.fault("thread A { assert 1<=@=1; }", 2);
        House.fault("thread A { assert 1>=@=1; }", 2);
        House.fault("thread A { assert 1!=@=1; }", 2);
        House.fault("thread A { assert 1@=!1; }", 2);
        House.fault("thread A { r @==1; }", 2);
        House.fault("thread A { assert 1@=<1; }", 2);
        House.fault("cell x@==1;", 2);
        House.fault("thread A { r = 1@a; }", 2);
        House.fault("thread A { assert 1<@<1; }", 2);
        House.fault("thread A { assert 1&@&1; }", 2);
        House house = House.of("thread A{p=!1;q=1<=1;r=1>=2;s=1!=1;t=!!1;u=1==1;}");
        house.begin(0, 0, 0, 0, 0, 0, 0);
        int[] due = {0, 1, 0, 0, 1, 1};
        for (int i = 0; i < due.length; i++) {
            House.due("local " + i, house.x.local(0, i), due[i]);
        }
        // a longer word is none of the language
        House words = House.of("cell cells; lock lock1; thread threads later { whilex = 1; iff = 1; el_se = 1; }");
        House.due("lines", words.x.count(6), 3);
        House.due("kind", words.x.line(0, 0), 0);
    }

    private static void wordsOfLettersDigitsAndLines() {
        House.sentence("a WORD: a letter, and letters, digits and _");
        House.of("cell a; cell Z; cell zA; cell a0; cell b9; cell c_; cell d__; cell E_9z_;");
        House.of("cell CELL; cell Cell; cell aa; cell aA; cell Aa; cell AA; cell A; lock Lock;");
        House.fault("cell @_a;", 1);
        House.fault("cell @9a;", 2);
        House.fault("cell a@-b;", 2);
        House.fault("cell a@$;", 1);
        House.fault("cell a@\u00e9;", 1);
        String[] ends = {"@", "[", "`", "/", ":", "^"};
        for (String end : ends) {
            House house = new House();
            House.due("program with " + end, house.read("cell a" + end + ";"), 1);
            House.due("place", house.x.count(1), 6);
        }
    }

    private static void wordsOfEight() {
        House.sentence("a WORD: at most 8; FAULTS 1: a token that is too long");
        House.of("cell abcdefgh; cell abcdefgi; cell bbcdefgh; cell a_____22; lock Zz99__Zz; thread aaaaaaaa { zzzzzzzz = zzzzzzzy; call ABCDEFGH; }");
        House.fault("cell @abcdefghi;", 1);
        House.fault("cell a; cell @a12345678;", 1);
        House.fault("thread A { @a________ = 1; }", 1);
        House.fault("@volatiles cell", 1);
        House.fault("cell x @volatilee;", 1);
        House.fault("thread A { r = @abcdefghi; }", 1);
        House.fault("thread A { call @abcdefghi; }", 1);
        House.fault("cell @" + House.times(64, "abcdefgh") + ";", 1);
        // 8 signs alike, but the last one: two names
        House house = House.of("cell abcdefg1; cell abcdefg2; thread A { abcdefg1 = 1; abcdefg2 = 2; }");
        house.begin(0, 0, 0);
        House.due("first", house.x.cell(0), 1);
        House.due("second", house.x.cell(1), 2);
    }

    private static void numbersOfThreeDigits() {
        House.sentence("a NUMBER: 1 to 3 digits");
        House house = House.of("cell a = 0; cell b = 9; cell c = 10; cell d = 999; cell e = 007; cell f = 000; cell g = - 999; cell h = - 0;");
        house.x.begin(0);
        int[] due = {0, 9, 10, 999, 7, 0, -999, 0};
        for (int c = 0; c < due.length; c++) {
            House.due("cell " + c, house.x.cell(c), due[c]);
        }
        House.fault("cell x = @1000;", 1);
        House.fault("cell x = @0001;", 1);
        House.fault("cell x = - @9999;", 1);
        House.fault("thread A { r = @0000; }", 1);
        House.fault("@1234", 1);
        House.fault("@123", 2);
    }

    private static void everyByte() {
        House.sentence("a byte that begins no token");
        House house = new House();
        for (int b = 0; b < 256; b++) {
            boolean blank = b == 9 || b == 10 || b == 13 || b == 32 || b == '#';
            boolean letter = b >= 'a' && b <= 'z' || b >= 'A' && b <= 'Z';
            boolean begins = letter || b >= '0' && b <= '9' || SIGNS.indexOf((char) b) >= 0;
            int due = blank ? 0 : begins ? 2 : 1;
            House.due("program of byte " + b, house.read(String.valueOf((char) b)), due);
            House.due("its place", house.x.count(1), blank ? House.NONE : 0);
            if (b % 100 == 99) {
                house = new House();
            }
        }
    }
}
