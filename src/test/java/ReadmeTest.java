import java.io.IOException;
import java.lang.reflect.Method;
import java.lang.reflect.Modifier;
import java.util.regex.Matcher;
import java.util.regex.Pattern;

/** What README.md shows under "Use" is what the class answers, and every call of the face stands under "Calls". */
public final class ReadmeTest {
    private static final Pattern LINE = Pattern.compile("lister\\.(\\w+)\\(([^)]*)\\); *// (-?\\d+|true|false)\\b");

    public static void main(String[] args) throws IOException, ReflectiveOperationException {
        Check check = new Check("ReadmeTest");
        String readme = Project.readme();
        answers(check, between(readme, "```java\n", "```"));
        names(check, between(readme, "### Calls", "\n#"));
        check.end();
    }

    private static String between(String text, String before, String behind) {
        int from = text.indexOf(before) + before.length();
        int to = text.indexOf(behind, from);
        return text.contains(before) && to >= 0 ? text.substring(from, to) : "";
    }

    private static void answers(Check check, String shown) throws ReflectiveOperationException {
        DoorLister lister = new DoorLister();
        int calls = 0;
        for (String line : shown.split("\n")) {
            Matcher call = LINE.matcher(line);
            if (call.find()) {
                calls++;
                check.due(line, answer(lister, call.group(1), call.group(2)).toString().equals(call.group(3)), true);
            } else {
                check.due(line + " is told with its answer", line.startsWith("lister."), false);
            }
        }
        check.due("calls are shown", calls > 0, true);
    }

    private static Object answer(DoorLister lister, String name, String told) throws ReflectiveOperationException {
        String[] words = told.isEmpty() ? new String[0] : told.split(", ");
        Object[] arguments = new Object[words.length];
        Class<?>[] types = new Class<?>[words.length];
        for (int i = 0; i < words.length; i++) {
            boolean yesOrNo = words[i].equals("true") || words[i].equals("false");
            types[i] = yesOrNo ? boolean.class : int.class;
            arguments[i] = yesOrNo ? (Object) Boolean.valueOf(words[i]) : (Object) Integer.decode(words[i]);
        }
        return DoorLister.class.getMethod(name, types).invoke(lister, arguments);
    }

    private static void names(Check check, String table) {
        for (Method method : DoorLister.class.getDeclaredMethods()) {
            if (Modifier.isPublic(method.getModifiers())) {
                Matcher call = Pattern.compile("`" + method.getName() + "\\(([^)]*)\\)`").matcher(table);
                boolean found = call.find();
                check.due(method.getName() + " stands under Calls", found, true);
                int parameters = !found || call.group(1).isEmpty() ? 0 : call.group(1).split(", ").length;
                check.due(method.getName() + " takes", parameters, found ? method.getParameterCount() : 0);
            }
        }
    }
}
