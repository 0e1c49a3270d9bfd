import java.nio.charset.StandardCharsets;

/** What the tests share: feeding texts, and telling answers that are not due. */
final class House {
    final TurnHouse x = new TurnHouse();
    private static int asked = 0;
    private static int wrong = 0;

    static void due(String what, int got, int want) {
        asked++;
        if (got != want) {
            wrong++;
            System.out.println(what + " answered " + got + ", due is " + want);
        }
    }

    /** Ends the test: exit code 1 if an answer was not due, or nothing was asked. */
    static void finish() {
        if (wrong > 0 || asked == 0) {
            System.out.println(wrong + " of " + asked + " answers are not as due");
            System.exit(1);
        }
    }

    static House of(String program) {
        House house = new House();
        due("program() of " + program, house.read(program), 0);
        return house;
    }

    int read(String program) {
        feed(program);
        return x.program();
    }

    int law(String law) {
        feed(law);
        return x.judge();
    }

    void feed(String text) {
        byte[] bytes = text.getBytes(StandardCharsets.ISO_8859_1);
        for (int from = 0; from < bytes.length; from += 20) {
            int[] numbers = new int[5];
            for (int i = 0; i < 20; i++) {
                int b = from + i < bytes.length ? bytes[from + i] & 255 : ' ';
                numbers[i / 4] = numbers[i / 4] << 8 | b;
            }
            x.feed(numbers[0], numbers[1], numbers[2], numbers[3], numbers[4]);
            if (bytes.length - from < 20) {
                x.end(bytes.length - from);
            }
        }
    }

    /** The fault of a text that is no program, and its place. */
    static void fault(String text, int fault, int place) {
        House house = new House();
        due("program() of " + text, house.read(text), fault);
        due("count(0) behind " + text, house.x.count(0), fault);
        due("count(1) behind " + text, house.x.count(1), place);
        due("count(6) behind " + text, house.x.count(6), 0);
        due("begin(0) behind " + text, house.x.begin(0), fault == 0 ? house.x.begin(0) : TurnHouse.BAD);
    }
}
