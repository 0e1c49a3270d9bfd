import java.io.IOException;
import java.lang.reflect.Constructor;
import java.lang.reflect.Field;
import java.lang.reflect.Method;
import java.lang.reflect.Modifier;
import java.nio.file.Files;
import java.nio.file.Path;
import java.util.HashSet;
import java.util.Set;
import java.util.TreeSet;
import java.util.regex.Matcher;
import java.util.regex.Pattern;

/** "The public face": the class has it all, and no more (rule 1 of LANGUAGE.md). */
public final class FaceTest {
    private static final Path DOCUMENT = Path.of("../shared/DOC.md");
    private static final Pattern FACE = Pattern.compile("## The public face\\s*```java\\s*(.*?)```", Pattern.DOTALL);
    private static final Pattern METHOD = Pattern.compile("public (\\w+) (\\w+)\\(([^)]*)\\);");
    private static final Pattern CONSTANT = Pattern.compile("(\\w+) = (-?\\d+)");

    public static void main(String[] args) throws IOException, IllegalAccessException {
        Matcher face = FACE.matcher(Files.readString(DOCUMENT));
        House.due("the document tells a face", face.find() ? 1 : 0, 1);
        methods(face.group(1));
        constants(face.group(1));
        oneConstructor();
        classesInside();
        House.due("the class is public and final", TurnHouse.class.getModifiers(), Modifier.PUBLIC | Modifier.FINAL);
        House.finish();
    }

    private static void methods(String face) {
        Set<String> due = new TreeSet<>();
        Matcher one = METHOD.matcher(face);
        while (one.find()) {
            String types = one.group(3).replaceAll("(\\w+) \\w+", "$1").replace(" ", "");
            due.add("public " + one.group(1) + " " + one.group(2) + "(" + types + ")");
        }
        Set<String> names = new HashSet<>();
        Set<String> have = new TreeSet<>();
        for (Method method : TurnHouse.class.getDeclaredMethods()) {
            if (!Modifier.isPrivate(method.getModifiers())) {
                have.add(Modifier.toString(method.getModifiers()) + " " + method.getReturnType().getName() + " " + method.getName()
                    + types(method));
                names.add(method.getName());
            }
        }
        House.due("methods of the document", due.size(), 36);
        House.due("the methods " + have + " are those of the document", have.equals(due) ? 1 : 0, 1);
        privateNames(TurnHouse.class, names);
        for (Class<?> inside : TurnHouse.class.getDeclaredClasses()) {
            privateNames(inside, names);
        }
    }

    private static String types(Method method) {
        StringBuilder types = new StringBuilder();
        for (Class<?> type : method.getParameterTypes()) {
            types.append(types.length() > 0 ? "," : "").append(type.getName());
        }
        return "(" + types + ")";
    }

    private static void privateNames(Class<?> of, Set<String> names) {
        for (Method method : of.getDeclaredMethods()) {
            boolean isPrivate = Modifier.isPrivate(method.getModifiers());
            House.due("private " + of.getSimpleName() + "." + method.getName() + " has a public one's name",
                isPrivate && names.contains(method.getName()) ? 1 : 0, 0);
        }
    }

    private static void constants(String face) throws IllegalAccessException {
        Matcher one = CONSTANT.matcher(face);
        Set<String> due = new TreeSet<>();
        while (one.find()) {
            due.add(one.group());
        }
        Set<String> have = new TreeSet<>();
        for (Field field : TurnHouse.class.getDeclaredFields()) {
            if (!Modifier.isPrivate(field.getModifiers())) {
                House.due(field.getName() + " is a constant", field.getModifiers(), Modifier.PUBLIC | Modifier.STATIC | Modifier.FINAL);
                House.due(field.getName() + " is an int", field.getType() == int.class ? 1 : 0, 1);
                have.add(field.getName() + " = " + field.getInt(null));
            }
        }
        House.due("the constants " + have + " are " + due, have.equals(due) ? 1 : 0, 1);
        House.due("constants", have.size(), 3);
    }

    private static void oneConstructor() {
        Constructor<?>[] all = TurnHouse.class.getDeclaredConstructors();
        House.due("constructors", all.length, 1);
        House.due("it is public", all[0].getModifiers(), Modifier.PUBLIC);
        House.due("its parameters", all[0].getParameterCount(), 0);
    }

    private static void classesInside() {
        for (Class<?> inside : TurnHouse.class.getDeclaredClasses()) {
            int flags = inside.getModifiers();
            House.due(inside.getSimpleName() + " is static", Modifier.isStatic(flags) ? 1 : 0, 1);
            House.due(inside.getSimpleName() + " is seen outside", Modifier.isPublic(flags) || Modifier.isProtected(flags) ? 1 : 0, 0);
        }
    }
}
