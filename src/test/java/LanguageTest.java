import java.io.IOException;
import java.lang.reflect.Constructor;
import java.lang.reflect.Field;
import java.lang.reflect.Method;
import java.lang.reflect.Modifier;
import java.nio.file.Files;
import java.nio.file.Path;
import java.util.TreeSet;
import java.util.regex.Matcher;
import java.util.regex.Pattern;

/** The face of the document, and such rules of LANGUAGE.md as can be seen in the source or by reflection. */
public final class LanguageTest {
    private static final Checks CHECKS = new Checks("LanguageTest");
    private static final String[] FACE = {
        "against(int,int,int):int", "set(int,int,int):int", "hen(int,int):int", "told(int,int):int",
        "asks(int,int,int):int", "feed(int):int", "text():int", "force(int):int", "argue(int,int):int", "night():int",
        "morning(int,int,int):int", "teach(int,int):int", "nights(int,int,int,int):int", "field(int):int",
        "sets(int,int):int", "share(int):long", "best(int,int):int", "three(int,int,int):int", "whom(int,int):int",
        "win(int,int):int", "agree(int,int):int", "tells(int,int,int):int", "film(int,int):int", "drawn(int,int,int):int",
        "chance(int,int,int,int,int):long", "image():int", "back():int", "count(int):int", "sheet(int,int,int):int",
        "cell(int,int,int):int", "copy(int,int,int,int,int):int", "hens(int,int,int,int):int", "taken(int,int):int",
    };
    /** What the interface says, and ahead of which calls. */
    private static final String[] HEADS = {
        "---- arguments, hens", "against", "set", "hen", "told", "asks",
        "---- texts", "feed", "text", "force",
        "---- putting, nights", "argue", "night", "morning", "teach", "nights",
        "---- which stand", "field", "sets", "share",
        "---- what would be best", "best", "three", "whom", "win", "agree",
        "---- what was told of laying", "tells", "film", "drawn", "chance", "image", "back", "count",
        "---- the host", "sheet", "cell", "copy", "hens", "taken",
    };
    private static final String[] NEVER = {
        "throw", "throws", "try", "catch", "finally", "synchronized", "assert", "import", "package", "var", "yield",
        "record", "volatile", "transient", "native", "strictfp", "float", "double", "Math.random", "System.out",
        "equals", "hashCode", "toString", "instanceof",
    };

    public static void main(String[] args) throws IOException {
        constants();
        face();
        classesInside();
        String source = Files.readString(Path.of("src/main/java/LaidByArgument.java"));
        heads(source);
        source(code(source));
        CHECKS.end();
    }

    private static void constants() {
        CHECKS.due("NONE", -1, LaidByArgument.NONE);
        CHECKS.due("BAD", -2, LaidByArgument.BAD);
        CHECKS.due("STATE", -3, LaidByArgument.STATE);
        CHECKS.due("FULL", -4, LaidByArgument.FULL);
        CHECKS.due("NO", -4611686018427387904L, LaidByArgument.NO);
    }

    private static void face() {
        Class<?> program = LaidByArgument.class;
        CHECKS.due("public and final", 1, program.getModifiers() == (Modifier.PUBLIC | Modifier.FINAL) ? 1 : 0);
        TreeSet<String> due = new TreeSet<>();
        TreeSet<String> names = new TreeSet<>();
        for (String one : FACE) {
            due.add(one);
            names.add(one.substring(0, one.indexOf('(')));
        }
        TreeSet<String> found = new TreeSet<>();
        for (Method method : program.getDeclaredMethods()) {
            if (Modifier.isPublic(method.getModifiers())) {
                found.add(saidOf(method));
            } else {
                CHECKS.due(method + " is private", 1, Modifier.isPrivate(method.getModifiers()) ? 1 : 0);
                CHECKS.due(method + " has a name of its own", 0, names.contains(method.getName()) ? 1 : 0);
            }
        }
        CHECKS.due("the methods " + found, 1, found.equals(due) ? 1 : 0);
        CHECKS.due("constructors", 1, program.getDeclaredConstructors().length);
        for (Constructor<?> made : program.getDeclaredConstructors()) {
            CHECKS.due("a public one of none", 1, Modifier.isPublic(made.getModifiers()) && made.getParameterCount() == 0 ? 1 : 0);
        }
        TreeSet<String> constants = new TreeSet<>();
        for (Field field : program.getDeclaredFields()) {
            if (Modifier.isPublic(field.getModifiers())) {
                constants.add(field.getName());
                CHECKS.due(field + " is a constant", 1, isConstant(field) ? 1 : 0);
            } else {
                CHECKS.due(field + " is private", 1, Modifier.isPrivate(field.getModifiers()) ? 1 : 0);
            }
        }
        CHECKS.due("the constants " + constants, 1, constants.toString().equals("[BAD, FULL, NO, NONE, STATE]") ? 1 : 0);
    }

    private static String saidOf(Method method) {
        StringBuilder said = new StringBuilder(method.getName()).append('(');
        for (Class<?> parameter : method.getParameterTypes()) {
            said.append(said.charAt(said.length() - 1) == '(' ? "" : ",").append(parameter.getName());
        }
        return said.append("):").append(method.getReturnType().getName()).toString();
    }

    private static boolean isConstant(Field field) {
        return Modifier.isStatic(field.getModifiers()) && Modifier.isFinal(field.getModifiers());
    }

    private static void classesInside() {
        Class<?>[] inside = LaidByArgument.class.getDeclaredClasses();
        CHECKS.due("at most some twelve classes: " + (inside.length + 1), 1, inside.length < 12 ? 1 : 0);
        limits(LaidByArgument.class);
        for (Class<?> one : inside) {
            CHECKS.due(one + " is static", 1, Modifier.isStatic(one.getModifiers()) ? 1 : 0);
            CHECKS.due(one + " is not public", 0, Modifier.isPublic(one.getModifiers()) ? 1 : 0);
            CHECKS.due(one + " has none inside", 0, one.getDeclaredClasses().length);
            limits(one);
        }
    }

    private static void limits(Class<?> one) {
        int fields = 0;
        for (Field field : one.getDeclaredFields()) {
            if (Modifier.isStatic(field.getModifiers())) {
                CHECKS.due(field + " is final", 1, Modifier.isFinal(field.getModifiers()) ? 1 : 0);
            } else {
                fields++;
            }
        }
        CHECKS.due(one + " has at most twenty fields", 1, fields <= 20 ? 1 : 0);
        for (Method method : one.getDeclaredMethods()) {
            CHECKS.due(method + " takes at most seven", 1, method.getParameterCount() <= 7 ? 1 : 0);
        }
    }

    private static void heads(String source) {
        Matcher said = Pattern.compile("(?m)^    (?:// (---- .*)|public (?:int|long) (\\w+)\\(.*)$").matcher(source);
        for (String due : HEADS) {
            String found = !said.find() ? "nothing" : said.group(1) != null ? said.group(1) : said.group(2);
            CHECKS.due("the interface says " + due + ", not " + found, 1, found.equals(due) ? 1 : 0);
        }
        CHECKS.due("the interface says no more", 0, said.find() ? 1 : 0);
    }

    /** The source without its comments and texts. */
    private static String code(String source) {
        return source.replaceAll("(?s)/\\*.*?\\*/", " ").replaceAll("//[^\n]*", " ").replaceAll("\"[^\"\n]*\"", "\"\"");
    }

    private static void source(String code) {
        for (String word : NEVER) {
            CHECKS.due("the source says " + word, 0,
                code.matches("(?s).*(?<![\\w.])" + word.replace(".", "\\.") + "(?!\\w).*") ? 1 : 0);
        }
        for (String sign : new String[] {"->", "::", "@", "\"\"\"", "static {", "<>"}) {
            CHECKS.due("the source says " + sign, 0, code.contains(sign) ? 1 : 0);
        }
        for (int i = 0; i < code.length(); i++) {
            if (code.charAt(i) > 126) {
                CHECKS.due("a sign above 126 in the source", 0, code.charAt(i));
            }
        }
        int longest = 0;
        int since = 0;
        for (String line : code.split("\n")) {
            since = line.matches("\\s+(public |private |static |final )*[\\w\\[\\]]+ \\w+\\(.*\\) \\{") ? 0 : since + 1;
            if (line.matches("( {4}| {8})\\}")) {
                longest = Math.max(longest, since);
                since = 0;
            }
        }
        CHECKS.due("the longest method has some sixty lines at most: " + longest, 1, longest <= 60 ? 1 : 0);
    }
}
