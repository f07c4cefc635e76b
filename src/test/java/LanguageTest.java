import java.lang.reflect.Constructor;
import java.lang.reflect.Field;
import java.lang.reflect.Member;
import java.lang.reflect.Method;
import java.lang.reflect.Modifier;
import java.nio.file.Files;
import java.nio.file.Path;
import java.util.Arrays;
import java.util.HashSet;
import java.util.Set;
import java.util.TreeSet;
import java.util.regex.Matcher;
import java.util.regex.Pattern;

/** The public face as the document has it, and what of LANGUAGE.md can be seen by a look at the text. */
public final class LanguageTest {
    private static final String[] FACE = {"int contents(int,int)", "int gift(int,int,int,int)", "int lot(int,int)",
        "int table()", "int family(int,int,int)", "int refer(int,int,int,int)", "int allowed(int,int)",
        "int need(int,int)", "int parcel(int)", "int of(int,int)", "int go(int)", "int want(int,int,int)",
        "int part(int)", "int got(int,int)", "int road(int,int,int)", "int load(int,int)", "int rounds(int)",
        "int stop(int)", "int feed(int,int,int,int,int)", "int end(int)", "int rules()", "int fault()",
        "int weigh(int,int,int)", "long given(int,int)", "long led(int,int)", "long count(int)", "int status()"};
    private static final String[] BANNED = {"\\bthrows?\\b", "\\btry\\b", "\\bcatch\\b", "\\bsynchronized\\b",
        "\\bassert\\b", "->", "::", "\\bpackage\\b", "\\bprotected\\b", "\\bSystem\\.(?!arraycopy)", "\\bThread\\b",
        "\\bRandom\\b", "\\bString\\.", "Exact\\b", "@", "\\bObject\\b", "\\.equals\\(", "\\bhashCode\\b",
        "\\btoString\\b", "\\bvar\\b", "\\bMAX_VALUE\\b", "\\bMIN_VALUE\\b", "\\bdouble\\b", "\\bfloat\\b"};
    private static final int MOST_CLASSES = 12;
    private static final int MOST_FIELDS = 20;
    private static final int MOST_PARAMETERS = 7;
    private static final int MOST_LINES = 60;
    private static final Check check = new Check("LanguageTest");

    public static void main(String[] args) throws Exception {
        face();
        classes();
        text(Files.readString(Path.of(args.length > 0 ? args[0] : "src/main/java/FoodShares.java")));
        check.end();
    }

    private static boolean isVisible(Member member) {
        return !Modifier.isPrivate(member.getModifiers()) && !member.isSynthetic();
    }

    private static String told(Method method) {
        StringBuilder types = new StringBuilder();
        for (Class<?> type : method.getParameterTypes()) {
            types.append(types.length() == 0 ? "" : ",").append(type.getSimpleName());
        }
        return method.getReturnType().getSimpleName() + " " + method.getName() + "(" + types + ")";
    }

    private static void face() {
        check.due("public and final", FoodShares.class.getModifiers(), Modifier.PUBLIC | Modifier.FINAL);
        Set<String> found = new TreeSet<>();
        for (Method method : FoodShares.class.getDeclaredMethods()) {
            if (isVisible(method)) {
                check.due(method + " is public alone", method.getModifiers(), Modifier.PUBLIC);
                found.add(told(method));
            }
        }
        check.due("the methods are " + found, found.equals(new TreeSet<>(Arrays.asList(FACE))));
        for (Field field : FoodShares.class.getDeclaredFields()) {
            check.due("visible: " + field, !isVisible(field) || field.getName().equals("NONE"));
        }
        Constructor<?>[] constructors = FoodShares.class.getDeclaredConstructors();
        check.due("constructors", constructors.length, 1);
        check.due("its parameters", constructors[0].getParameterCount(), 0);
    }

    private static void classes() {
        Class<?>[] inside = FoodShares.class.getDeclaredClasses();
        check.due("few classes: " + inside.length, inside.length < MOST_CLASSES);
        members(FoodShares.class);
        for (Class<?> one : inside) {
            check.due(one + " is static", Modifier.isStatic(one.getModifiers()));
            check.due(one + " is not public", !Modifier.isPublic(one.getModifiers()));
            members(one);
        }
    }

    private static void members(Class<?> one) {
        Set<String> faceNames = new HashSet<>();
        for (String method : FACE) {
            faceNames.add(method.substring(method.indexOf(' ') + 1, method.indexOf('(')));
        }
        int fields = 0;
        for (Field field : one.getDeclaredFields()) {
            boolean isStatic = Modifier.isStatic(field.getModifiers());
            check.due(field + " is final if static", !isStatic || Modifier.isFinal(field.getModifiers()));
            fields += isStatic ? 0 : 1;
        }
        check.due(one + " has few fields: " + fields, fields <= MOST_FIELDS);
        for (Method method : one.getDeclaredMethods()) {
            check.due(method + " has few parameters", method.getParameterCount() <= MOST_PARAMETERS);
            boolean isFace = one == FoodShares.class && Modifier.isPublic(method.getModifiers());
            check.due(method + " bears a public one's name", isFace || !faceNames.contains(method.getName()));
        }
    }

    private static void text(String source) {
        String bare = source.replaceAll("(?s)/\\*.*?\\*/", "").replaceAll("//[^\n]*", "")
            .replaceAll("\"[^\"]*\"", "\"\"");
        for (String banned : BANNED) {
            check.due("the text has " + banned, !Pattern.compile(banned).matcher(bare).find());
        }
        Matcher imports = Pattern.compile("import ([^;]+);").matcher(bare);
        while (imports.find()) {
            check.due("import " + imports.group(1),
                Set.of("java.util.ArrayList", "java.util.List", "java.util.Arrays").contains(imports.group(1)));
        }
        methodLengths(source);
    }

    private static void methodLengths(String source) {
        String[] lines = source.split("\n");
        for (int i = 0; i < lines.length; i++) {
            Matcher head = Pattern.compile("^( ++)(?!if|for|while|switch|else|return)[\\w\\[\\]<> ]+\\([^;]*$").matcher(lines[i]);
            if (!head.matches() || lines[i].contains(" = ")) {
                continue;
            }
            int end = i;
            while (end < lines.length && !lines[end].equals(head.group(1) + "}")) {
                end++;
            }
            check.due(lines[i].trim() + " is short", end - i < MOST_LINES);
        }
    }
}
