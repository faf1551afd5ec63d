import java.io.IOException;
import java.lang.reflect.Constructor;
import java.lang.reflect.Field;
import java.lang.reflect.Member;
import java.lang.reflect.Method;
import java.lang.reflect.Modifier;
import java.util.Arrays;
import java.util.Set;
import java.util.TreeSet;
import java.util.regex.Matcher;
import java.util.regex.Pattern;

/** The rules of LANGUAGE.md that can be seen from outside: the face, the words of the source, the classes. */
public final class LanguageTest {
    private static final String FACE = "boolean change(int,int,int,int,int,int)|boolean copy(int,int)"
            + "|int code(int,int,int,int,int)|int count(int,int)|int cuts(int,int)"
            + "|int effect(int,int,int,int,int)|int ended()|int feed(int,int,int,int,int)"
            + "|int fresh(int,int,int,int)|int look(int,int,int)|int melted(int,int,int)|int needed(int,int,int)"
            + "|int reach(int,boolean)|int run(int,int)|int seen(int,int,int)|int shut(int,int)"
            + "|int span(int,int,int,int)|int spans(int,int)|int steps(int,int,int,int)"
            + "|int way(int,int,int,int,int)";

    public static void main(String[] args) throws IOException {
        Check check = new Check("LanguageTest");
        face(check);
        for (Class<?> inside : DoorLister.class.getDeclaredClasses()) {
            inside(check, inside);
        }
        check.due("some twelve classes at most", DoorLister.class.getDeclaredClasses().length <= 11, true);
        words(check, Project.source());
        check.end();
    }

    private static void face(Check check) {
        Set<String> found = new TreeSet<>();
        for (Method method : DoorLister.class.getDeclaredMethods()) {
            if (Modifier.isPublic(method.getModifiers())) {
                String parameters = Arrays.toString(method.getParameterTypes()).replaceAll("[\\[\\] ]", "");
                found.add(method.getReturnType() + " " + method.getName() + "(" + parameters + ")");
            }
        }
        check.due("the face " + found, String.join("|", found).equals(FACE), true);
        for (Method method : DoorLister.class.getDeclaredMethods()) {
            if (!Modifier.isPublic(method.getModifiers())) {
                isPrivate(check, method);
                bearsNoPublicName(check, method);
            }
        }
        Constructor<?>[] constructors = DoorLister.class.getDeclaredConstructors();
        check.due("constructors", constructors.length, 1);
        check.due("it is public", Modifier.isPublic(constructors[0].getModifiers()), true);
        check.due("it takes none", constructors[0].getParameterCount(), 0);
        for (Field field : DoorLister.class.getDeclaredFields()) {
            if (!field.getName().equals("NONE")) {
                isPrivate(check, field);
            }
            staticIsFinal(check, field);
        }
        int modifiers = DoorLister.class.getModifiers();
        check.due("public and final", Modifier.isPublic(modifiers) && Modifier.isFinal(modifiers), true);
    }

    private static void isPrivate(Check check, Member member) {
        check.due(member + " is private", Modifier.isPrivate(member.getModifiers()), true);
    }

    private static void bearsNoPublicName(Check check, Method method) {
        check.due(method + " bears a public name", FACE.contains(" " + method.getName() + "("), false);
    }

    private static void staticIsFinal(Check check, Field field) {
        int modifiers = field.getModifiers();
        check.due(field + " is final", !Modifier.isStatic(modifiers) || Modifier.isFinal(modifiers), true);
    }

    private static void inside(Check check, Class<?> inside) {
        check.due(inside + " is static", Modifier.isStatic(inside.getModifiers()), true);
        int fields = 0;
        for (Field field : inside.getDeclaredFields()) {
            staticIsFinal(check, field);
            fields += Modifier.isStatic(field.getModifiers()) ? 0 : 1;
        }
        check.due(inside + " has few fields", fields <= 20, true);
        for (Method method : inside.getDeclaredMethods()) {
            check.due(method + " takes few", method.getParameterCount() <= 7, true);
            bearsNoPublicName(check, method);
        }
    }

    private static void words(Check check, String source) {
        String code = source.replaceAll("(?s)/\\*.*?\\*/", "").replaceAll("//[^\n]*", "");
        String[] never = {"throw", "throws", "try", "catch", "finally", "synchronized", "assert", "package", "native",
            "volatile", "Object", "hashCode", "toString", "Exact", "random", "Thread"};
        for (String word : never) {
            check.due(word, Pattern.compile("\\b" + word + "\\b").matcher(code).find(), false);
        }
        check.due("lambda", code.contains("->"), false);
        check.due("method reference", code.contains("::"), false);
        Matcher imports = Pattern.compile("import [^;]*;").matcher(code);
        while (imports.find()) {
            check.due(imports.group(), imports.group().equals("import java.util.Arrays;"), true);
        }
        Matcher library = Pattern.compile("\\b(Arrays|System|Math|Integer|Long|String)\\.(\\w+)").matcher(code);
        Set<String> allowed = Set.of("Arrays.fill", "System.arraycopy", "Math.min", "Math.max", "Integer.bitCount");
        while (library.find()) {
            check.due(library.group(), allowed.contains(library.group()), true);
        }
    }
}
