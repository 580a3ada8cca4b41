import java.lang.reflect.InvocationTargetException;
import java.lang.reflect.Method;
import java.lang.reflect.Modifier;
import java.util.ArrayList;
import java.util.Comparator;
import java.util.List;
import java.util.Random;

/** Long runs of calls, the same ones each time, on the program and on the model, which have to answer the same. */
public final class ModelTest {
    private static final int RUNS = 200;
    private static final int CALLS = 512;

    private final Random random;
    private final NineWays program = new NineWays();
    private final Model model = new Model();
    private final List<String> told = new ArrayList<>();
    private final List<Method> methods = face();
    private String[] names = {"a", "b", "ab", "zzzzzzzz", "new"};

    private ModelTest(int seed) {
        random = new Random(seed);
    }

    public static void main(String[] args) throws Exception {
        int runs = args.length > 0 ? Integer.parseInt(args[0]) : RUNS;
        int first = args.length > 1 ? Integer.parseInt(args[1]) : 0;
        for (int seed = first; seed < first + runs; seed++) {
            ModelTest test = new ModelTest(seed);
            if (!test.runs()) {
                System.out.println("seed " + seed + ":");
                test.told.stream().skip(Math.max(0, test.told.size() - 30)).forEach(System.out::println);
                System.exit(1);
            }
        }
        System.out.println("ModelTest: " + runs + " runs are as due");
    }

    private static List<Method> face() {
        List<Method> methods = new ArrayList<>();
        for (Method method : NineWays.class.getDeclaredMethods()) {
            if (Modifier.isPublic(method.getModifiers())) {
                methods.add(method);
            }
        }
        methods.sort(Comparator.comparing(Method::getName));
        return methods;
    }

    private boolean runs() throws Exception {
        int style = random.nextInt(4);
        for (int calls = 0; calls < CALLS; ) {
            int before = told.size();
            boolean good = random.nextInt(12) == 0 || calls == 0 ? text(style) : one(style);
            calls += told.size() - before;
            if (!good) {
                return false;
            }
        }
        return reports();
    }

    private boolean reports() throws Exception {
        for (int row = 0; row < 4; row++) {
            if (!same("report", row)) {
                return false;
            }
            for (int i = -1; i < 740; i++) {
                if (!same("reportByte", i)) {
                    return false;
                }
            }
        }
        return true;
    }

    private boolean same(String name, int... parameters) throws Exception {
        for (Method method : methods) {
            if (method.getName().equals(name)) {
                return same(method, parameters);
            }
        }
        throw new IllegalStateException(name);
    }

    private boolean same(Method method, int[] parameters) throws Exception {
        Object[] boxed = new Object[parameters.length];
        StringBuilder call = new StringBuilder(method.getName());
        for (int k = 0; k < boxed.length; k++) {
            boxed[k] = parameters[k];
            call.append(' ').append(parameters[k]);
        }
        String got = answer(method, program, boxed);
        String want = answer(Model.class.getMethod(method.getName(), method.getParameterTypes()), model, boxed);
        told.add(call + " answered " + got + (got.equals(want) ? "" : ", due is " + want));
        return got.equals(want);
    }

    private static String answer(Method method, Object object, Object[] parameters) throws Exception {
        try {
            return String.valueOf(method.invoke(object, parameters));
        } catch (InvocationTargetException e) {
            return "throws." + e.getCause().getClass().getSimpleName();
        }
    }

    // ---- single calls

    private boolean one(int style) throws Exception {
        Method method = methods.get(random.nextInt(methods.size()));
        String name = method.getName();
        if (name.equals("feed") || name.equals("readText") || name.equals("runScript")) {
            return random.nextInt(20) != 0 || same(method, new int[method.getParameterCount()]);
        }
        if (name.equals("restore") && random.nextInt(3) != 0 || name.equals("truncate") && random.nextBoolean()) {
            return true;
        }
        int[] parameters = new int[method.getParameterCount()];
        String kinds = kindsOf(name);
        int row = number(-1, Math.max(1, model.setting(0)) + (random.nextInt(10) == 0 ? 1 : 0));
        for (int k = 0; k < parameters.length; k++) {
            parameters[k] = random.nextInt(60) == 0 ? random.nextInt() : parameter(kinds.charAt(k), row, style);
        }
        return same(method, parameters);
    }

    private static String kindsOf(String name) {
        switch (name) {
            case "setting", "account", "truncate", "reportByte", "setRule":
                return "w";
            case "setSkip":
                return "s";
            case "way", "setPrice":
                return name.equals("way") ? "yw" : "yp";
            case "row", "letter", "wordsBy", "priceBy", "entryStart", "entrySum", "word", "wordSum":
                return "rw";
            case "wordPart":
                return "rww";
            case "why":
                return "rwy";
            case "read", "readsFor", "remove":
                return "ri";
            case "sum":
                return "rij";
            case "first", "many", "append":
                return "rv";
            case "wordsIf", "put", "insert":
                return "riv";
            case "wordsTogether", "join":
                return "rr";
            default:
                return "r";
        }
    }

    private int number(int least, int most) {
        return least + random.nextInt(most - least + 1);
    }

    private int parameter(char kind, int row, int style) {
        int rows = model.setting(0);
        int length = row >= 0 && row < rows ? model.row(row, 0) : 3;
        switch (kind) {
            case 'r':
                return random.nextInt(8) == 0 ? number(-1, 4) : number(0, Math.max(0, rows - 1));
            case 'w':
                return random.nextInt(3) == 0 ? number(-1, 8) : number(0, 3);
            case 'y':
                return random.nextInt(10) == 0 ? number(-1, 9) : number(0, 8);
            case 'p':
                return random.nextInt(10) == 0 ? number(-1, 100) : number(0, 5);
            case 's':
                return random.nextInt(5) == 0 ? number(0, 10) : number(1, 4);
            case 'i':
                return random.nextInt(8) == 0 ? number(-1, length + 1) : number(0, Math.max(0, length));
            case 'j':
                return number(length / 2, length + (random.nextInt(5) == 0 ? 1 : 0));
            default:
                return value(style);
        }
    }

    private int value(int style) {
        int shape = random.nextInt(20);
        if (shape == 0) {
            return number(-1, 1) + (1 << number(0, 28));
        }
        if (shape == 1) {
            return 268435456 - number(0, 2);
        }
        int bits = style == 0 ? number(1, 28) : style == 1 ? number(1, 3) : style == 2 ? number(1, 9) : random.nextInt(6) == 0 ? 15 : 1;
        return random.nextInt(1 << bits);
    }

    // ---- texts

    private boolean text(int style) throws Exception {
        int shape = random.nextInt(20);
        String text = shape < 3 ? names[random.nextInt(5)] : shape < 11 || told.isEmpty() ? system(style) : script(style);
        if (random.nextInt(shape < 3 ? 10 : 4) == 0 && !text.isEmpty()) {
            text = spoiled(text);
        }
        text = text.substring(0, Math.min(600, text.length()));
        if (!same("truncate", 0)) {
            return false;
        }
        for (int at = 0; at < text.length(); at += 20) {
            int[] fives = new int[5];
            for (int k = 0; k < 20; k++) {
                int sign = at + k < text.length() ? text.charAt(at + k) : random.nextInt(256);
                fives[k / 4] = fives[k / 4] << 8 | sign & 255;
            }
            if (!same("feed", fives)) {
                return false;
            }
        }
        return same("truncate", text.length()) && same("find")
            && same(shape < 3 ? "add" : shape < 11 || told.isEmpty() ? "readText" : "runScript")
            && same("errorCode") && same("errorPosition");
    }

    private String spoiled(String text) {
        int at = random.nextInt(text.length());
        String[] signs = {";", "(", ")", " ", "\n", "a", "9", "-", "A", "\u00e4", "\0", "1234567890", "abcdefghi", "row", "repeat", " 0 ", ""};
        int cut = random.nextInt(3) == 0 ? number(0, 5) : random.nextInt(2);
        String behind = text.substring(Math.min(text.length(), at + cut));
        return text.substring(0, at) + signs[random.nextInt(signs.length)] + (random.nextInt(8) == 0 ? "" : behind);
    }

    private String name() {
        return random.nextInt(6) == 0 ? names[random.nextInt(5)] : names[random.nextInt(3)];
    }

    private String blank() {
        return random.nextInt(6) == 0 ? "\n " : " ";
    }

    private String system(int style) {
        StringBuilder text = new StringBuilder("pack ");
        text.append(rarely() ? 3 : number(0, 2)).append(blank()).append(rarely() ? number(0, 10) : number(1, 4)).append(";");
        int rows = rarely() ? 5 : number(0, 4);
        for (int row = 0; row < rows; row++) {
            text.append("row ").append(rarely() ? name() : names[Math.min(row, 4)]);
            int length = rarely() ? 61 : number(0, style == 0 ? 8 : 18);
            for (int i = 0; i < length; i++) {
                text.append(' ').append(length > 30 ? random.nextInt(10) : Math.max(value(style), 0));
            }
            text.append(";").append(random.nextBoolean() ? "" : blank());
            if (random.nextInt(3) == 0) {
                int times = rarely() ? number(0, 61) : number(1, 30);
                text.append("fill ").append(rarely() ? name() : names[random.nextInt(row + 1)]).append(" ").append(times)
                    .append(blank()).append(Math.max(value(style), 0)).append(";");
            }
        }
        int prices = random.nextInt(3) == 0 ? 0 : number(0, 6);
        for (int k = 0; k < prices; k++) {
            int way = rarely() ? number(0, 9) : (k * 4 + 5) % 9;
            text.append("price ").append(way).append(" ").append(rarely() ? number(0, 101) : number(0, 4)).append(";");
        }
        return text.toString();
    }

    private boolean rarely() {
        return random.nextInt(25) == 0;
    }

    private String script(int style) {
        StringBuilder text = new StringBuilder();
        int commands = rarely() ? 33 : number(0, 12);
        for (int k = 0; k < commands; k++) {
            text.append(command(style, 0)).append(random.nextInt(4) == 0 ? blank() : "");
        }
        return text.toString();
    }

    private String command(int style, int depth) {
        String i = String.valueOf(number(0, 4));
        String value = String.valueOf(rarely() ? random.nextInt(999999999) : Math.max(value(style), 0));
        switch (random.nextInt(12)) {
            case 0:
                return "new " + name() + ";";
            case 1, 2:
                return "add " + name() + " " + value + ";";
            case 3:
                return "put " + name() + " " + i + " " + value + ";";
            case 4:
                return "insert " + name() + i + " " + value + " ;";
            case 5:
                return "remove " + name() + blank() + i + ";";
            case 6:
                return "join " + name() + " " + name() + ";";
            case 7:
                return "rule " + (rarely() ? 3 : number(0, 2)) + ";";
            case 8:
                return "skip " + (rarely() ? number(0, 10) : number(1, 9)) + ";";
            case 9:
                return "price " + (rarely() ? 9 : number(0, 8)) + " " + (rarely() ? 100 : number(0, 9)) + ";";
            default:
                return repeat(style, depth);
        }
    }

    private String repeat(int style, int depth) {
        if (depth > 1 && !rarely()) {
            return "skip 1;";
        }
        StringBuilder text = new StringBuilder("repeat ");
        text.append(rarely() ? number(0, 21) : random.nextInt(5) == 0 ? number(1, 20) : number(1, 4)).append("(");
        for (int k = number(0, 3); k > 0; k--) {
            text.append(command(style, depth + 1));
        }
        return text.append(");").toString();
    }
}
