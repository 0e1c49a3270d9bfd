/** Promises 18 and 19: histories of calls, and the order that they are put in. */
public final class HistoryTest {
    public static void main(String[] args) {
        arguments();
        cells();
        sums();
        stacks();
        rows();
        openCalls();
        broken();
        full();
        orderStays();
        House.finish();
    }

    /** Threads A, B, C with these statements go by these steps; then the history is such by a structure. */
    private static House linear(int structure, int due, String a, String b, String c, int... steps) {
        House house = House.of("thread A { " + a + " } thread B { " + b + " } thread C { " + c + " }");
        house.begin(0, steps);
        House.due("linear(" + structure + ") of " + a + " | " + b + " | " + c, house.x.linear(structure), due);
        return house;
    }

    private static void ordered(House house, int... due) {
        for (int i = 0; i < due.length; i++) {
            House.due("ordered(" + i + ")", house.x.ordered(i), due[i]);
        }
        House.due("ordered behind the last", house.x.ordered(due.length), House.NONE);
        House.due("ordered(-1)", house.x.ordered(-1), House.NONE);
    }

    private static void arguments() {
        House house = House.of("thread A { halt; }");
        House.due("linear without a run", house.x.linear(0), House.BAD);
        house.x.begin(0);
        House.due("linear(-1)", house.x.linear(-1), House.BAD);
        House.due("linear(4)", house.x.linear(4), House.BAD);
        for (int structure = 0; structure < 4; structure++) {
            House.due("linear of nothing", house.x.linear(structure), 1);
        }
        ordered(house);
    }

    private static void cells() {
        ordered(linear(0, 1, "call write 5; reply;", "call read; reply 5;", "", 0, 0, 10, 10), 0, 1);
        linear(0, 0, "call write 5; reply;", "call read; reply 0;", "", 0, 0, 10, 10);
        // both at once: the read may be ahead
        ordered(linear(0, 1, "call write 5; reply;", "call read; reply 0;", "", 0, 10, 0, 10), 1, 0);
        ordered(linear(0, 1, "call write 5; reply;", "call read; reply 5;", "", 10, 0, 0, 10), 1, 0);
        linear(0, 0, "call write 5; reply 1;", "", "", 0, 0);
        linear(0, 0, "call read; reply 1;", "", "", 0, 0);
        ordered(linear(0, 1, "call write 1; reply; call write 2; reply;", "call read; reply 1;", "call read; reply 2;",
            20, 0, 0, 10, 0, 0, 10, 20), 1, 2, 3, 0);
    }

    private static void sums() {
        ordered(linear(1, 1, "call plus 2; reply 3;", "call plus 3; reply;", "call read; reply 5;", 0, 10, 0, 10, 20, 20), 1, 0, 2);
        linear(1, 0, "call plus 2; reply;", "call plus 3; reply;", "call read; reply 5;", 0, 10, 0, 10, 20, 20);
        // a sum may go beyond what programs count with
        linear(1, 1, "call plus 999; reply; call plus 999; reply 999; call plus - 999; reply 0;", "", "", 0, 0, 0, 0, 0);
        linear(1, 0, "call plus 999; reply; call plus 999; reply 999; call read; reply 999;", "", "", 0, 0, 0, 0, 0, 0);
    }

    private static void stacks() {
        linear(2, 1, "call push 1; reply; call push 2; reply; call pop; reply 2; call pop; reply 1; call pop; reply - 1;", "", "",
            0, 0, 0, 0, 0, 0, 0, 0, 0, 0);
        linear(2, 0, "call push 1; reply; call push 2; reply; call pop; reply 1;", "", "", 0, 0, 0, 0, 0, 0);
        linear(2, 0, "call pop; reply;", "", "", 0, 0);
        ordered(linear(2, 1, "call push 1; reply;", "call push 2; reply;", "call pop; reply 1; call pop; reply 2;",
            0, 10, 10, 0, 20, 20, 20, 20), 1, 0, 2, 3);
    }

    private static void rows() {
        linear(3, 1, "call put 1; reply; call put 2; reply; call get; reply 1; call get; reply 2; call get; reply - 1;", "", "",
            0, 0, 0, 0, 0, 0, 0, 0, 0, 0);
        linear(3, 0, "call put 1; reply; call put 2; reply; call get; reply 2;", "", "", 0, 0, 0, 0, 0, 0);
        ordered(linear(3, 1, "call put 1; reply;", "call put 2; reply;", "call get; reply 2; call get; reply 1;",
            0, 10, 10, 0, 20, 20, 20, 20), 1, 0, 2, 3);
        ordered(linear(3, 1, "call get; reply - 1;", "call put 7; reply;", "call get; reply 7;", 0, 10, 10, 20, 20, 0), 0, 1, 2);
    }

    private static void openCalls() {
        // a call without a reply may have done its work
        ordered(linear(0, 1, "call write 5; reply;", "call read; reply 5;", "", 0, 10, 10), 0, 1);
        // the order told is the first one, even where it could be shorter
        ordered(linear(0, 1, "call write 5; reply;", "call read; reply 0;", "", 0, 10, 10), 1);
        ordered(linear(2, 1, "call pop; reply;", "call push 4; reply;", "", 0, 10, 10), 0, 1);
        ordered(linear(2, 1, "call push 4; reply;", "call pop; reply;", "", 0, 0, 10), 0);
        linear(0, 0, "call read; reply 5; call write 5;", "", "", 0, 0, 0);
        ordered(linear(1, 1, "call plus 1;", "", "", 0));
    }

    private static void broken() {
        linear(0, House.NONE, "reply;", "", "", 0);
        linear(0, House.NONE, "call read; call read; reply;", "", "", 0, 0);
        linear(0, House.NONE, "call read; reply; reply;", "", "", 0, 0, 0);
        linear(0, House.NONE, "call push 1; reply;", "", "", 0);
        linear(0, House.NONE, "call other; reply;", "", "", 0, 0);
        linear(1, House.NONE, "call write 1; reply;", "", "", 0, 0);
        linear(2, House.NONE, "call read; reply;", "", "", 0, 0);
        linear(2, House.NONE, "call put 1; reply;", "", "", 0, 0);
        linear(3, House.NONE, "call pop; reply;", "", "", 0, 0);
        linear(3, House.NONE, "call push; reply;", "", "", 0, 0);
        linear(0, House.NONE, "call plus 1; reply;", "", "", 0, 0);
        linear(0, 1, "call read; reply;", "call read; reply;", "", 0, 10, 0, 10);
        // a call that goes wrong tells nothing
        linear(0, 1, "call push 999 + 1;", "", "", 0);
        linear(0, 1, "call read; reply 999 + 1;", "call read; reply;", "", 0, 0, 10, 10);
    }

    private static void full() {
        String thrice = House.times(3, "call put 1; reply;");
        int[] twelve = new int[24];
        House house = House.of("thread A { " + House.times(12, "call put 1; reply;") + "call put 2; reply; call pop; }");
        house.begin(0, twelve);
        House.due("twelve calls", house.x.linear(3), 1);
        ordered(house, 0, 1, 2, 3, 4, 5, 6, 7, 8, 9, 10, 11);
        house.turns(0);
        House.due("thirteen calls", house.x.linear(3), House.FULL);
        House.due("thirteen calls of another structure", house.x.linear(2), House.NONE);
        house.turns(0, 0);
        House.due("a broken one of many", house.x.linear(3), House.NONE);
        House many = House.of("thread A { " + thrice + " } thread B { " + thrice + " } thread C { " + thrice + " } thread D { "
            + thrice.replace("put 1; reply;", "get; reply 2;") + " }");
        many.begin(0, 0, 10, 20, 30, 0, 0, 10, 10, 20, 20, 30, 30, 0, 0, 10, 10, 20, 20, 30, 30, 0, 10, 20, 30);
        House.due("none fits", many.x.linear(3), 0);
    }

    private static void orderStays() {
        House house = linear(0, 1, "call write 5; reply;", "call read; reply 0;", "", 0, 10, 0, 10);
        ordered(house, 1, 0);
        House.due("linear of another structure", house.x.linear(2), House.NONE);
        ordered(house, 1, 0);
        house.x.begin(0);
        ordered(house, 1, 0);
        house.read("nothing");
        ordered(house, 1, 0);
        house.read("thread A { call read; reply 3; }");
        house.begin(1, 0, 0);
        House.due("not linear", house.x.linear(0), 0);
        ordered(house, 1, 0);
        house.begin(1);
        House.due("linear of nothing", house.x.linear(0), 1);
        ordered(house);
    }
}
