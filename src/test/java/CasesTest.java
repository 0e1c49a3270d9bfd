import java.io.IOException;
import java.lang.reflect.InvocationTargetException;
import java.lang.reflect.Method;
import java.nio.charset.StandardCharsets;
import java.nio.file.Files;
import java.nio.file.Path;
import java.util.HashMap;
import java.util.List;
import java.util.Map;

/** All promises: the runs of calls under src/test/cases, each with the answers that are due. */
public final class CasesTest {
    private static final Map<String, Method> CALLS = new HashMap<>();

    public static void main(String[] args) throws IOException, ReflectiveOperationException {
        for (Method method : TurnHouse.class.getMethods()) {
            if (method.getDeclaringClass() == TurnHouse.class) {
                CALLS.put(method.getName(), method);
            }
        }
        String[] files = {"anyPrograms.txt", "likelyPrograms.txt", "numbersOfStates.txt", "wholeObjects.txt", "manyTexts.txt",
            "histories.txt", "largerPrograms.txt"};
        for (String file : files) {
            runFile(file, Files.readAllLines(Path.of("src/test/cases", file), StandardCharsets.ISO_8859_1));
        }
        House.finish();
    }

    private static void runFile(String file, List<String> lines) throws ReflectiveOperationException {
        House house = new House();
        for (int i = 0; i < lines.size(); i++) {
            String line = lines.get(i);
            if (line.equals("new")) {
                house = new House();
            } else if (line.startsWith("text ")) {
                house.feed(line.substring(5));
            } else if (!line.startsWith("#")) {
                int cut = line.indexOf(" = ");
                String call = line.substring(0, cut);
                House.due(file + ":" + (i + 1) + " " + call, answer(house.x, call), Integer.parseInt(line.substring(cut + 3)));
            }
        }
    }

    private static int answer(TurnHouse x, String call) throws ReflectiveOperationException {
        String[] parts = call.split(" ");
        Method method = CALLS.get(parts[0]);
        Class<?>[] types = method.getParameterTypes();
        Object[] values = new Object[types.length];
        for (int i = 0; i < types.length; i++) {
            int value = Integer.parseInt(parts[i + 1]);
            values[i] = types[i] == boolean.class ? (Object) (value == 1) : (Object) value;
        }
        try {
            return (int) method.invoke(x, values);
        } catch (InvocationTargetException e) {
            System.out.println(call + " threw " + e.getCause());
            return Integer.MIN_VALUE;
        }
    }
}
