import java.nio.charset.StandardCharsets;

/** What the tests share: feeding texts, and telling answers that are not due. */
final class House {
    static final int BAD = -1, NONE = -2, FULL = -3, NO_VALUE = -1000;

    final TurnHouse x = new TurnHouse();
    private static int asked = 0;
    private static int wrong = 0;
    private static String sentence = "";

    static void due(String what, int got, int want) {
        asked++;
        if (got != want) {
            wrong++;
            System.out.println(asker() + ": " + what + " answered " + got + ", due is " + want
                + (sentence.isEmpty() ? "" : " by: " + sentence));
        }
    }

    /** The sentence of the document that is tested from here on. */
    static void sentence(String words) {
        sentence = words;
    }

    /** The line of the test that asks. */
    private static String asker() {
        for (StackTraceElement frame : new Throwable().getStackTrace()) {
            if (!frame.getClassName().equals("House")) {
                return frame.getFileName() + ":" + frame.getLineNumber();
            }
        }
        return "?";
    }

    /** Ends the test: exit code 1 if an answer was not due, or nothing was asked. */
    static void finish() {
        if (wrong > 0 || asked == 0) {
            System.out.println(wrong + " of " + asked + " answers are not as due");
            System.exit(1);
        }
    }

    /** A house that has read a program without fault. */
    static House of(String program) {
        House house = new House();
        due("program() of " + program, house.read(program), 0);
        return house;
    }

    int read(String program) {
        feed(program);
        return x.program();
    }

    int law(String law) {
        feed(law);
        return x.judge();
    }

    /** A law that is judged so, and what shows it. */
    void law(String law, int holds, int where) {
        due("judge() of " + law, law(law), holds);
        due("where() behind " + law, x.where(), where);
    }

    void feed(String text) {
        byte[] bytes = text.getBytes(StandardCharsets.ISO_8859_1);
        for (int from = 0; from < bytes.length; from += 20) {
            int[] numbers = new int[5];
            for (int i = 0; i < 20; i++) {
                int b = from + i < bytes.length ? bytes[from + i] & 255 : ' ';
                numbers[i / 4] = numbers[i / 4] << 8 | b;
            }
            x.feed(numbers[0], numbers[1], numbers[2], numbers[3], numbers[4]);
            if (bytes.length - from < 20) {
                x.end(bytes.length - from);
            }
        }
    }

    /** Steps of a run, each told by its thread times 10 and its choice; all must be ready. */
    void turns(int... steps) {
        for (int step : steps) {
            boolean ready = x.turn(step / 10, step % 10) >= 0;
            due("turn(" + step / 10 + ", " + step % 10 + ") is ready", ready ? 1 : 0, 1);
        }
    }

    void begin(int way, int... steps) {
        x.begin(way);
        turns(steps);
    }

    /** The ready steps are these, and no more. */
    void readySteps(int... steps) {
        for (int i = 0; i < steps.length; i++) {
            due("ready(" + i + ")", x.ready(i), steps[i]);
        }
        due("ready() behind the last", x.ready(steps.length), NONE);
    }

    /** How a thread is, its next line, and why it went wrong. */
    void thread(int t, int status, int line, int why) {
        due("thread(" + t + ", 0)", x.thread(t, 0), status);
        due("thread(" + t + ", 1)", x.thread(t, 1), line);
        due("thread(" + t + ", 2)", x.thread(t, 2), why);
    }

    /** A text, marked by @ where its fault is, is no program by that fault. */
    static void fault(String marked, int fault) {
        int place = marked.indexOf('@');
        String text = marked.substring(0, place) + marked.substring(place + 1);
        House house = new House();
        due("program() of " + marked, house.read(text), fault);
        due("count(0) behind " + marked, house.x.count(0), fault);
        due("count(1) behind " + marked, house.x.count(1), place);
        due("count(2) behind " + marked, house.x.count(2), 0);
        due("begin(0) behind " + marked, house.x.begin(0), BAD);
    }

    /** A law, marked by @ where its fault is, has that fault. */
    void lawFault(String marked, int fault) {
        int place = marked.indexOf('@');
        String text = marked.substring(0, place) + marked.substring(place + 1);
        due("judge() of " + marked, law(text), -10 - fault);
        due("count(0) behind " + marked, x.count(0), fault);
        due("count(1) behind " + marked, x.count(1), place);
        due("count(2) behind " + marked, x.count(2), 0);
    }

    static String times(int n, String text) {
        StringBuilder all = new StringBuilder();
        for (int i = 0; i < n; i++) {
            all.append(text);
        }
        return all.toString();
    }
}
