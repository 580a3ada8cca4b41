import java.lang.reflect.Constructor;
import java.lang.reflect.Executable;
import java.lang.reflect.Field;
import java.lang.reflect.Method;
import java.lang.reflect.Modifier;
import java.nio.file.Files;
import java.nio.file.Path;
import java.util.HashSet;
import java.util.Set;
import java.util.TreeSet;
import java.util.regex.Matcher;
import java.util.regex.Pattern;

/** The face that the document shows, and what of LANGUAGE.md can be seen by a search. */
public final class LanguageTest {
    public static void main(String[] args) throws Exception {
        face();
        classes();
        source();
        constructors();
        Checks.end("LanguageTest");
    }

    private static String told(String name, Class<?> answer, Executable executable) {
        StringBuilder text = new StringBuilder(answer == null ? "" : answer + " ").append(name).append('(');
        for (Class<?> type : executable.getParameterTypes()) {
            text.append(type).append(' ');
        }
        text.append(')');
        for (Class<?> type : executable.getExceptionTypes()) {
            text.append(' ').append(type.getSimpleName());
        }
        return text.toString();
    }

    private static void face() throws Exception {
        Set<String> wanted = new TreeSet<>();
        String doc = Files.readString(Path.of("../shared/DOC.md"));
        Pattern line = Pattern.compile("    public (?:(int|long|float|double) )?(\\w+)\\(([^)]*)\\)(?: throws ([^;]*))?;");
        Matcher matcher = line.matcher(doc);
        while (matcher.find()) {
            String parameters = matcher.group(3).replaceAll(" \\w+(, )?", " ");
            String exceptions = matcher.group(4) == null ? "" : " " + matcher.group(4).replace(",", "");
            String answer = matcher.group(1) == null ? "" : matcher.group(1) + " ";
            wanted.add(answer + matcher.group(2) + "(" + parameters + ")" + exceptions);
        }
        Checks.due("members of the face", wanted.size(), 50);
        Set<String> found = new TreeSet<>();
        Set<String> names = new HashSet<>();
        for (Method method : NineWays.class.getDeclaredMethods()) {
            if (!Modifier.isPrivate(method.getModifiers())) {
                Checks.due(method.getName() + " is public", Modifier.isPublic(method.getModifiers()), true);
                found.add(told(method.getName(), method.getReturnType(), method));
                names.add(method.getName());
            }
        }
        for (Constructor<?> constructor : NineWays.class.getDeclaredConstructors()) {
            found.add(told("NineWays", null, constructor));
        }
        Checks.due("the face", found.toString(), wanted.toString());
        for (Field field : NineWays.class.getDeclaredFields()) {
            Checks.due(field.getName() + " is private or NONE", Modifier.isPrivate(field.getModifiers()), !field.getName().equals("NONE"));
        }
        privateNames(NineWays.class, names);
        for (Class<?> inner : NineWays.class.getDeclaredClasses()) {
            privateNames(inner, names);
        }
    }

    private static void privateNames(Class<?> in, Set<String> names) {
        for (Method method : in.getDeclaredMethods()) {
            if (!Modifier.isPublic(method.getModifiers())) {
                Checks.due(in + "." + method.getName() + " bears a name of the face", names.contains(method.getName()), false);
            }
        }
    }

    private static void classes() {
        Checks.due("it is public and final", NineWays.class.getModifiers() & 0xffff, Modifier.PUBLIC | Modifier.FINAL);
        Class<?>[] inner = NineWays.class.getDeclaredClasses();
        Checks.due("at most twelve classes", inner.length < 12, true);
        for (Class<?> one : inner) {
            Checks.due(one + " is private", Modifier.isPrivate(one.getModifiers()), true);
            Checks.due(one + " is static", Modifier.isStatic(one.getModifiers()), true);
            fieldsOf(one);
        }
        fieldsOf(NineWays.class);
    }

    private static void fieldsOf(Class<?> one) {
        int fields = 0;
        for (Field field : one.getDeclaredFields()) {
            boolean constant = Modifier.isStatic(field.getModifiers());
            fields += constant ? 0 : 1;
            Checks.due(field + " is final if it is static", !constant || Modifier.isFinal(field.getModifiers()), true);
        }
        Checks.due(one + " has at most twenty fields", fields <= 20, true);
        for (Method method : one.getDeclaredMethods()) {
            Checks.due(method + " takes at most seven parameters", method.getParameterCount() <= 7, true);
        }
    }

    private static void source() throws Exception {
        String all = Files.readString(Path.of("src/main/java/NineWays.java"));
        String code = all.replaceAll("(?s)/\\*.*?\\*/", "").replaceAll("//.*", "");
        String[] none = {"import ", "package ", "\\btry\\b", "\\bcatch\\b", "finally", "synchronized", "assert", "->", "::", "Exact\\(",
            "static \\{", "\\.equals\\(", "toString", "hashCode", "protected", "native", "volatile", "\"\\s*\\+|\\+\\s*\"",
            "Math\\.(?!max\\(|min\\()", "System\\.(?!arraycopy\\()", "Integer\\.", "[^\\x00-\\x7f]",
            "while \\(true\\)", "for \\(;;\\)", "getMessage"};
        for (String pattern : none) {
            Checks.due("\"" + pattern + "\" in the source", Pattern.compile(pattern).matcher(code).find(), false);
        }
        Matcher method = Pattern.compile("(?m)^( +)(?:public |private |static |final )*[\\w\\[\\]]+ (\\w+)\\([^)]*\\).*\\{$").matcher(all);
        while (method.find()) {
            int end = all.indexOf("\n" + method.group(1) + "}", method.end());
            long lines = all.substring(method.start(), end).lines().count() + 1;
            Checks.due(method.group().trim() + " has at most sixty lines", lines <= 60, true);
            boolean callsItself = Pattern.compile("(?<![.\\w])" + method.group(2) + "\\(").matcher(all.substring(method.end(), end)).find();
            boolean isPrivateStatic = method.group().contains("private static ");
            Checks.due(method.group().trim() + " calls itself, and is not private and static", callsItself && !isPrivateStatic, false);
        }
    }

    // Rule 12: an object that is being made gives nothing of its own to another one's constructor.
    private static void constructors() throws Exception {
        String all = Files.readString(Path.of("src/main/java/NineWays.java"));
        Matcher field = Pattern.compile("(?m)^ +(?:private |final )*\\w+ (\\w+) = new \\w+\\(([^)]*)\\);$").matcher(all);
        int fields = 0;
        while (field.find()) {
            fields++;
            Checks.due(field.group(1) + " is made of", field.group(2), "");
        }
        Checks.due("fields that are objects were found", fields > 5, true);
        Checks.due("an object tells itself to another one", Pattern.compile("[(,] *this *[,)]").matcher(all).find(), false);
    }
}
