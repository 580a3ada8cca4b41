import java.util.ArrayDeque;
import java.util.ArrayList;
import java.util.Arrays;
import java.util.Deque;
import java.util.HashMap;
import java.util.List;
import java.util.Map;
import java.util.regex.Matcher;
import java.util.regex.Pattern;

/**
 * The document once more, in the slowest and plainest way: lists, texts and copies of everything.
 * ModelTest compares the program with it, so it shares no thought with the program where it can avoid it.
 */
public final class Model {
    static final int[] COUNT = {28, 14, 9, 7, 5, 4, 3, 2, 1};
    static final int[] WIDTH = {1, 2, 3, 4, 5, 7, 9, 14, 28};

    private static final class Row {
        final String name;
        final List<Long> numbers = new ArrayList<>();

        Row(String name) {
            this.name = name;
        }
    }

    private static final class State {
        final List<Row> rows = new ArrayList<>();
        int rule = 0;
        int skip = 4;
        final int[] prices = new int[9];

        State() {
            Arrays.fill(prices, 1);
        }

        State copy() {
            State other = new State();
            for (Row row : rows) {
                Row same = new Row(row.name);
                same.numbers.addAll(row.numbers);
                other.rows.add(same);
            }
            other.rule = rule;
            other.skip = skip;
            System.arraycopy(prices, 0, other.prices, 0, 9);
            return other;
        }

        int named(String name) {
            for (int k = 0; k < rows.size(); k++) {
                if (rows.get(k).name.equals(name)) {
                    return k;
                }
            }
            return -1;
        }
    }

    private static final class Fault extends Exception {
        private static final long serialVersionUID = 1;
        final int code;
        final int position;

        Fault(int code, int position) {
            this.code = code;
            this.position = position;
        }
    }

    private static final class Refused extends RuntimeException {
        private static final long serialVersionUID = 1;
        final int reason;

        Refused(int reason) {
            this.reason = reason;
        }
    }

    private State state = new State();
    private State saved = null;
    private final Deque<State> undo = new ArrayDeque<>();
    private String buffer = "";
    private String report = "";
    private int code = 0;
    private int position = -1;
    private int refusal = 0;
    private final int[] accounts = new int[4];

    // ---- texts

    public int feed(int a, int b, int c, int d, int e) {
        if (buffer.length() + 20 > 600) {
            throw new IllegalStateException();
        }
        StringBuilder text = new StringBuilder(buffer);
        for (int four : new int[] {a, b, c, d, e}) {
            text.append((char) (four >>> 24)).append((char) (four >>> 16 & 255)).append((char) (four >>> 8 & 255)).append((char) (four & 255));
        }
        buffer = text.toString();
        return buffer.length();
    }

    public int truncate(int length) {
        if (length < 0 || length > buffer.length()) {
            throw new IllegalArgumentException();
        }
        buffer = buffer.substring(0, length);
        return length;
    }

    public int readText() {
        String text = buffer;
        buffer = "";
        code = 0;
        position = -1;
        try {
            state = system(new Tokens(text));
        } catch (Fault fault) {
            code = fault.code;
            position = fault.position;
            throw new IllegalArgumentException();
        }
        undo.clear();
        return state.rows.size();
    }

    public int runScript() {
        String text = buffer;
        buffer = "";
        code = 0;
        position = -1;
        List<List<Object>> commands;
        try {
            Tokens tokens = new Tokens(text);
            commands = script(tokens, 0);
            if (!tokens.kind().equals("end")) {
                throw new Fault(1, tokens.position());
            }
        } catch (Fault fault) {
            code = fault.code;
            position = fault.position;
            throw new IllegalArgumentException();
        }
        keep();
        done = 0;
        perform(commands);
        return done;
    }

    public int errorCode() {
        return code;
    }

    public int errorPosition() {
        return position;
    }

    private static final class Tokens {
        final List<String> kinds = new ArrayList<>();
        final List<String> texts = new ArrayList<>();
        final List<Integer> positions = new ArrayList<>();
        int at = 0;
        int commands = 0;

        Tokens(String text) {
            Matcher matcher = Pattern.compile("[a-z]+|[0-9]+|[^a-z0-9]", Pattern.DOTALL).matcher(text);
            while (matcher.find()) {
                String found = matcher.group();
                if (found.equals(" ") || found.equals("\n")) {
                    continue;
                }
                String kind = "wrong";
                if (found.matches("[a-z]{1,8}")) {
                    kind = "word";
                } else if (found.matches("[0-9]{1,9}")) {
                    kind = "number";
                } else if (found.matches("[;()]")) {
                    kind = found;
                }
                put(kind, found, matcher.start());
            }
            put("end", "", text.length());
        }

        private void put(String kind, String text, int position) {
            kinds.add(kind);
            texts.add(text);
            positions.add(position);
        }

        String kind() {
            return kinds.get(at);
        }

        String text() {
            return texts.get(at);
        }

        int position() {
            return positions.get(at);
        }

        void need(boolean good, int code) throws Fault {
            if (!good) {
                throw new Fault(code, position());
            }
        }

        String take(String kind) throws Fault {
            need(kind().equals(kind), 1);
            return texts.get(at++);
        }

        long peekNumber(long least, long most) throws Fault {
            need(kind().equals("number"), 1);
            long value = Long.parseLong(text());
            need(value >= least && value <= most, 2);
            return value;
        }

        long number(long least, long most) throws Fault {
            long value = peekNumber(least, most);
            at++;
            return value;
        }
    }

    private static State system(Tokens t) throws Fault {
        State made = new State();
        t.need(t.text().equals("pack"), 1);
        t.at++;
        made.rule = (int) t.number(0, 2);
        made.skip = (int) t.number(1, 9);
        t.take(";");
        List<Long> told = new ArrayList<>();
        while (!t.kind().equals("end")) {
            t.need(List.of("row", "price", "fill").contains(t.text()), 1);
            if (t.text().equals("row")) {
                t.need(made.rows.size() < 4, 5);
                t.at++;
                t.need(t.kind().equals("word"), 1);
                t.need(made.named(t.text()) < 0, 3);
                Row row = new Row(t.take("word"));
                made.rows.add(row);
                while (!t.kind().equals(";")) {
                    long value = t.peekNumber(0, 268435455);
                    t.need(row.numbers.size() < 60, 5);
                    row.numbers.add(value);
                    t.at++;
                }
            } else if (t.text().equals("price")) {
                t.at++;
                long way = t.peekNumber(0, 8);
                t.need(!told.contains(way), 3);
                told.add(way);
                t.at++;
                made.prices[(int) way] = (int) t.number(0, 99);
            } else {
                t.at++;
                t.need(t.kind().equals("word"), 1);
                t.need(made.named(t.text()) >= 0, 4);
                Row row = made.rows.get(made.named(t.take("word")));
                long times = t.peekNumber(1, 60);
                t.need(row.numbers.size() + times <= 60, 5);
                t.at++;
                long value = t.number(0, 268435455);
                for (long k = 0; k < times; k++) {
                    row.numbers.add(value);
                }
            }
            t.take(";");
        }
        return made;
    }

    private static final Map<String, String> FORMS = Map.of(
        "new", "w", "add", "wn", "put", "wnn", "insert", "wnn", "remove", "wn",
        "join", "ww", "rule", "n", "skip", "n", "price", "nn", "repeat", "r");

    /** Each command is a list: its word, then names, numbers, and for "repeat" a list of commands. */
    private static List<List<Object>> script(Tokens t, int depth) throws Fault {
        List<List<Object>> all = new ArrayList<>();
        while (!t.kind().equals("end") && !t.kind().equals(")")) {
            String form = FORMS.get(t.text());
            t.need(form != null, 1);
            t.need(!form.equals("r") || depth < 2, 3);
            t.need(t.commands < 30, 5);
            t.commands++;
            List<Object> command = new ArrayList<>();
            command.add(t.take("word"));
            for (char part : form.toCharArray()) {
                if (part == 'w') {
                    command.add(t.take("word"));
                } else if (part == 'n') {
                    command.add(t.number(0, 999999999));
                } else {
                    command.add(t.number(1, 20));
                    t.take("(");
                    command.add(script(t, depth + 1));
                    t.take(")");
                }
            }
            t.take(";");
            all.add(command);
        }
        return all;
    }

    private int done;

    /** Answers whether the script goes on. */
    private boolean perform(List<List<Object>> commands) {
        for (List<Object> command : commands) {
            if (command.get(0).equals("repeat")) {
                @SuppressWarnings("unchecked")
                List<List<Object>> inner = (List<List<Object>>) command.get(2);
                for (long k = 0; k < (Long) command.get(1); k++) {
                    if (!perform(inner)) {
                        return false;
                    }
                }
            } else {
                try {
                    one(command);
                } catch (Refused e) {
                    note(e.reason);
                    return false;
                } catch (IndexOutOfBoundsException | IllegalArgumentException e) {
                    return false;
                }
                accounts[0]++;
                done++;
                if (done == 40) {
                    return false;
                }
            }
        }
        return true;
    }

    private void one(List<Object> command) {
        int[] p = new int[4];
        for (int k = 1; k < command.size(); k++) {
            Object part = command.get(k);
            p[k] = part instanceof Long number ? (int) (long) number : state.named((String) part);
        }
        switch ((String) command.get(0)) {
            case "new" -> doAdd((String) command.get(1));
            case "add" -> doInsert(p[1], p[1] < 0 ? 0 : state.rows.get(p[1]).numbers.size(), p[2]);
            case "put" -> doPut(p[1], p[2], p[3]);
            case "insert" -> doInsert(p[1], p[2], p[3]);
            case "remove" -> doRemove(p[1], p[2]);
            case "join" -> doJoin(p[1], p[2]);
            case "rule" -> doRule(p[1]);
            case "skip" -> doSkip(p[1]);
            default -> doPrice(p[1], p[2]);
        }
    }

    // ---- words

    static boolean held(long number, int way) {
        return number < Math.pow(2, WIDTH[way]);
    }

    static boolean takeable(List<Long> numbers, int at, int way) {
        for (int k = at; k < at + COUNT[way] && k < numbers.size(); k++) {
            if (!held(numbers.get(k), way)) {
                return false;
            }
        }
        return true;
    }

    static List<Integer> ways(List<Long> numbers, int rule, int[] prices) {
        if (rule == 0) {
            List<Integer> ways = new ArrayList<>();
            for (int at = 0; at < numbers.size(); at += COUNT[ways.get(ways.size() - 1)]) {
                int way = 0;
                while (!takeable(numbers, at, way)) {
                    way++;
                }
                ways.add(way);
            }
            return ways;
        }
        return best(numbers, 0, rule, prices, new HashMap<>());
    }

    private static List<Integer> best(List<Long> numbers, int at, int rule, int[] prices, Map<Integer, List<Integer>> known) {
        if (at >= numbers.size()) {
            return List.of();
        }
        if (!known.containsKey(at)) {
            List<Integer> best = null;
            for (int way = 8; way >= 0; way--) {
                if (takeable(numbers, at, way)) {
                    List<Integer> ways = new ArrayList<>(List.of(way));
                    ways.addAll(best(numbers, at + COUNT[way], rule, prices, known));
                    if (best == null || better(ways, best, rule, prices)) {
                        best = ways;
                    }
                }
            }
            known.put(at, best);
        }
        return known.get(at);
    }

    static int price(List<Integer> ways, int[] prices) {
        int sum = 0;
        for (int way : ways) {
            sum += prices[way];
        }
        return sum;
    }

    static boolean better(List<Integer> ways, List<Integer> than, int rule, int[] prices) {
        if (rule == 2 && price(ways, prices) != price(than, prices)) {
            return price(ways, prices) < price(than, prices);
        }
        if (ways.size() != than.size()) {
            return ways.size() < than.size();
        }
        for (int k = 0; k < ways.size(); k++) {
            if (!ways.get(k).equals(than.get(k))) {
                return ways.get(k) < than.get(k);
            }
        }
        return false;
    }

    private final Map<String, List<Integer>> waysKnown = new HashMap<>();

    private List<Integer> ways(List<Long> numbers) {
        String key = state.rule + Arrays.toString(state.prices) + numbers;
        if (!waysKnown.containsKey(key)) {
            waysKnown.put(key, ways(numbers, state.rule, state.prices));
        }
        return waysKnown.get(key);
    }

    private Row rowOf(int row) {
        if (row < 0 || row >= state.rows.size()) {
            throw new IndexOutOfBoundsException();
        }
        return state.rows.get(row);
    }

    private List<Integer> ways(int row) {
        return ways(rowOf(row).numbers);
    }

    /** The numbers of each word of a row. */
    private List<List<Long>> words(int row) {
        List<Long> left = rowOf(row).numbers;
        List<List<Long>> words = new ArrayList<>();
        for (int way : ways(row)) {
            int count = Math.min(COUNT[way], left.size());
            words.add(left.subList(0, count));
            left = left.subList(count, left.size());
        }
        return words;
    }

    private List<Integer> starts(int row) {
        List<Integer> starts = new ArrayList<>();
        int start = 0;
        for (List<Long> word : words(row)) {
            starts.add(start);
            start += word.size();
        }
        return starts;
    }

    private static long total(List<Long> numbers) {
        return numbers.stream().mapToLong(n -> n).sum();
    }

    private static int bits(long number) {
        return Math.max(1, Long.toBinaryString(number).length());
    }

    private static void argument(boolean good) {
        if (!good) {
            throw new IllegalArgumentException();
        }
    }

    private static void index(boolean good) {
        if (!good) {
            throw new IndexOutOfBoundsException();
        }
    }

    // ---- what there is

    public int setting(int what) {
        argument(what >= 0 && what <= 5);
        int numbers = 0;
        int words = 0;
        int prices = 0;
        for (int row = 0; row < state.rows.size(); row++) {
            numbers += row(row, 0);
            words += row(row, 1);
            prices += row(row, 2);
        }
        return new int[] {state.rows.size(), state.rule, state.skip, numbers, words, prices}[what];
    }

    public int letter(int row, int i) {
        String name = rowOf(row).name;
        return i >= 0 && i < name.length() ? "abcdefghijklmnopqrstuvwxyz".indexOf(name.charAt(i)) + 1 : 0;
    }

    public int way(int way, int what) {
        index(way >= 0 && way <= 8);
        argument(what >= 0 && what <= 3);
        int words = 0;
        for (int row = 0; row < state.rows.size(); row++) {
            for (int one : ways(row)) {
                words += one == way ? 1 : 0;
            }
        }
        return new int[] {COUNT[way], WIDTH[way], state.prices[way], words}[what];
    }

    public int row(int row, int what) {
        rowOf(row);
        argument(what >= 0 && what <= 6);
        int empty = 0;
        int unneeded = 0;
        int set = 0;
        List<List<Long>> words = words(row);
        for (int k = 0; k < words.size(); k++) {
            int way = ways(row).get(k);
            set |= 1 << way;
            empty += 28;
            for (long number : words.get(k)) {
                empty -= WIDTH[way];
                unneeded += WIDTH[way] - bits(number);
            }
        }
        int entries = (words.size() + state.skip - 1) / state.skip;
        int price = price(ways(row), state.prices);
        return new int[] {rowOf(row).numbers.size(), words.size(), price, entries, empty, unneeded, set}[what];
    }

    private void wordOf(int row, int word) {
        index(word >= 0 && word < words(row).size());
    }

    public int word(int row, int word) {
        wordOf(row, word);
        int way = ways(row).get(word);
        long value = 268435456L * way;
        long unit = 1;
        for (long number : words(row).get(word)) {
            value += number * unit;
            unit *= 1L << WIDTH[way];
        }
        return (int) value;
    }

    public int wordPart(int row, int word, int what) {
        wordOf(row, word);
        argument(what >= 0 && what <= 3);
        int way = ways(row).get(word);
        int held = words(row).get(word).size();
        return new int[] {way, held, starts(row).get(word), 28 - held * WIDTH[way]}[what];
    }

    public long wordSum(int row, int word) {
        wordOf(row, word);
        return total(words(row).get(word));
    }

    private int entryWord(int row, int entry) {
        rowOf(row);
        long word = (long) entry * state.skip;
        return entry >= 0 && word < words(row).size() ? (int) word : -1;
    }

    public int entryStart(int row, int entry) {
        int word = entryWord(row, entry);
        return word < 0 ? -1 : starts(row).get(word);
    }

    public long entrySum(int row, int entry) {
        int word = entryWord(row, entry);
        return word < 0 ? -1 : total(rowOf(row).numbers.subList(0, starts(row).get(word)));
    }

    public int why(int row, int word, int way) {
        wordOf(row, word);
        index(way >= 0 && way <= 8);
        if (ways(row).get(word) == way) {
            return 0;
        }
        return takeable(rowOf(row).numbers, starts(row).get(word), way) ? 2 : 1;
    }

    public int gap() {
        return 0;
    }

    public int find() {
        return state.named(buffer);
    }

    // ---- reading

    private int entryFor(int row, int i) {
        int entry = 0;
        for (int e = 0; entryWord(row, e) >= 0; e++) {
            if (entryStart(row, e) <= i) {
                entry = e;
            }
        }
        return entry;
    }

    public int read(int row, int i) {
        int reads = readsFor(row, i);
        accounts[3] += reads;
        return (int) (long) rowOf(row).numbers.get(i);
    }

    public int readsFor(int row, int i) {
        index(i >= 0 && i < rowOf(row).numbers.size());
        int reads = 0;
        int word = entryFor(row, i) * state.skip;
        while (true) {
            reads++;
            if (starts(row).get(word) + words(row).get(word).size() > i) {
                return reads;
            }
            word++;
        }
    }

    private long ahead(int row, int i) {
        if (words(row).isEmpty()) {
            return 0;
        }
        int entry = entryFor(row, i);
        long sum = entrySum(row, entry);
        for (int word = entry * state.skip; word < words(row).size() && starts(row).get(word) < i; word++) {
            accounts[3]++;
            int index = starts(row).get(word);
            for (long number : words(row).get(word)) {
                sum += index < i ? number : 0;
                index++;
            }
        }
        return sum;
    }

    public long sum(int row, int from, int to) {
        rowOf(row);
        argument(from >= 0 && from <= to && to <= rowOf(row).numbers.size());
        return ahead(row, to) - ahead(row, from);
    }

    private int look(int row, int value, boolean all) {
        int times = 0;
        rowOf(row);
        for (int word = 0; word < words(row).size() && value >= 0; word++) {
            if (held(value, ways(row).get(word))) {
                accounts[3]++;
                List<Long> numbers = words(row).get(word);
                for (int k = 0; k < numbers.size(); k++) {
                    if (numbers.get(k) == value) {
                        if (!all) {
                            return starts(row).get(word) + k;
                        }
                        times++;
                    }
                }
            }
        }
        return all ? times : -1;
    }

    public int first(int row, int value) {
        return look(row, value, false);
    }

    public int many(int row, int value) {
        return look(row, value, true);
    }

    public int greatest(int row) {
        return (int) rowOf(row).numbers.stream().mapToLong(n -> n).max().orElse(-1);
    }

    public float filled() {
        int needed = 0;
        for (Row row : state.rows) {
            for (long number : row.numbers) {
                needed += bits(number);
            }
        }
        return setting(4) == 0 ? 1.0f : (float) needed / (32f * setting(4));
    }

    public double meanHeld(int row) {
        return ways(row).isEmpty() ? 0.0 : (double) rowOf(row).numbers.size() / (double) ways(row).size();
    }

    // ---- what would be

    public int wordsBy(int row, int rule) {
        rowOf(row);
        argument(rule >= 0 && rule <= 2);
        return ways(rowOf(row).numbers, rule, state.prices).size();
    }

    public int priceBy(int row, int rule) {
        rowOf(row);
        argument(rule >= 0 && rule <= 2);
        return price(ways(rowOf(row).numbers, rule, state.prices), state.prices);
    }

    public int wordsIf(int row, int i, int value) {
        index(i >= 0 && i < rowOf(row).numbers.size());
        argument(value >= 0 && value <= 268435455);
        List<Long> numbers = new ArrayList<>(rowOf(row).numbers);
        numbers.set(i, (long) value);
        return ways(numbers).size();
    }

    public int bestRemove(int row) {
        int best = -1;
        int fewest = Integer.MAX_VALUE;
        for (int i = 0; i < rowOf(row).numbers.size(); i++) {
            List<Long> numbers = new ArrayList<>(rowOf(row).numbers);
            numbers.remove(i);
            int words = ways(numbers, state.rule, state.prices).size();
            if (words < fewest) {
                fewest = words;
                best = i;
            }
        }
        return best;
    }

    public int dearWay(int row) {
        List<Long> numbers = rowOf(row).numbers;
        int words = ways(numbers, 2, state.prices).size();
        for (int way = 0; way < 9; way++) {
            for (int price = 0; price <= 99; price++) {
                int[] prices = state.prices.clone();
                prices[way] = price;
                if (ways(numbers, 2, prices).size() < words) {
                    return way;
                }
            }
        }
        return -1;
    }

    public int wordsTogether(int row, int other) {
        List<Long> numbers = new ArrayList<>(rowOf(row).numbers);
        numbers.addAll(rowOf(other).numbers);
        return ways(numbers).size();
    }

    public int bestSkip(int row) {
        int before = state.skip;
        int best = -1;
        int fewest = Integer.MAX_VALUE;
        if (rowOf(row).numbers.isEmpty()) {
            return -1;
        }
        for (int skip = 1; skip <= 9; skip++) {
            state.skip = skip;
            int reads = 0;
            for (int i = 0; i < rowOf(row).numbers.size(); i++) {
                reads += readsFor(row, i);
            }
            if (reads <= fewest) {
                fewest = reads;
                best = skip;
            }
        }
        state.skip = before;
        return best;
    }

    // ---- changes

    private void keep() {
        undo.addLast(state.copy());
        if (undo.size() > 6) {
            undo.removeFirst();
        }
    }

    private void note(int reason) {
        accounts[1]++;
        refusal = reason;
    }

    /** Does a change on a copy, so that nothing is left of one that throws or is refused. */
    private int change(Runnable change) {
        State before = state;
        state = before.copy();
        try {
            change.run();
        } catch (Refused e) {
            state = before;
            note(e.reason);
            return -e.reason;
        } catch (RuntimeException e) {
            state = before;
            throw e;
        }
        State after = state;
        state = before;
        keep();
        state = after;
        accounts[0]++;
        return 0;
    }

    private static void refuse(boolean bad, int reason) {
        if (bad) {
            throw new Refused(reason);
        }
    }

    private void doAdd(String name) {
        refuse(state.rows.size() == 4, 101);
        refuse(!name.matches("[a-z]{1,8}") || state.named(name) >= 0, 102);
        state.rows.add(new Row(name));
    }

    private void doInsert(int row, int i, int value) {
        index(i >= 0 && i <= rowOf(row).numbers.size());
        argument(value >= 0 && value <= 268435455);
        refuse(rowOf(row).numbers.size() == 60, 103);
        rowOf(row).numbers.add(i, (long) value);
    }

    private void doPut(int row, int i, int value) {
        index(i >= 0 && i < rowOf(row).numbers.size());
        argument(value >= 0 && value <= 268435455);
        rowOf(row).numbers.set(i, (long) value);
    }

    private void doRemove(int row, int i) {
        index(i >= 0 && i < rowOf(row).numbers.size());
        rowOf(row).numbers.remove(i);
    }

    private void doJoin(int row, int other) {
        List<Long> more = new ArrayList<>(rowOf(other).numbers);
        refuse(rowOf(row).numbers.size() + more.size() > 60, 103);
        rowOf(row).numbers.addAll(more);
    }

    private void doRule(int rule) {
        argument(rule >= 0 && rule <= 2);
        state.rule = rule;
    }

    private void doSkip(int skip) {
        argument(skip >= 1 && skip <= 9);
        state.skip = skip;
    }

    private void doPrice(int way, int price) {
        index(way >= 0 && way <= 8);
        argument(price >= 0 && price <= 99);
        state.prices[way] = price;
    }

    private int wordsAfter(int row, Runnable change) {
        int refused = change(change);
        return refused < 0 ? refused : ways(row).size();
    }

    public int add() {
        int refused = change(() -> doAdd(buffer));
        if (refused < 0) {
            return refused;
        }
        buffer = "";
        return state.rows.size() - 1;
    }

    public int append(int row, int value) {
        return wordsAfter(row, () -> doInsert(row, rowOf(row).numbers.size(), value));
    }

    public int put(int row, int i, int value) {
        return wordsAfter(row, () -> doPut(row, i, value));
    }

    public int insert(int row, int i, int value) {
        return wordsAfter(row, () -> doInsert(row, i, value));
    }

    public int remove(int row, int i) {
        return wordsAfter(row, () -> doRemove(row, i));
    }

    public int join(int row, int other) {
        return wordsAfter(row, () -> doJoin(row, other));
    }

    public int setRule(int rule) {
        int before = state.rule;
        change(() -> doRule(rule));
        return before;
    }

    public int setSkip(int skip) {
        int before = state.skip;
        change(() -> doSkip(skip));
        return before;
    }

    public int setPrice(int way, int price) {
        index(way >= 0 && way <= 8);
        int before = state.prices[way];
        change(() -> doPrice(way, price));
        return before;
    }

    // ---- accounts, undo, reports, saving

    public int refusal() {
        return refusal;
    }

    public int account(int what) {
        argument(what >= 0 && what <= 3);
        return accounts[what];
    }

    public int undo() {
        if (undo.isEmpty()) {
            return -1;
        }
        state = undo.removeLast();
        accounts[2]++;
        return undo.size();
    }

    public int report(int row) {
        StringBuilder text = new StringBuilder(rowOf(row).name + ":");
        List<List<Long>> words = words(row);
        for (int k = 0; k < words.size(); k++) {
            text.append(ways(row).get(k)).append(words.get(k).toString().replace('[', '(').replace(']', ')').replace(" ", ""));
        }
        report = text.append("\n").toString();
        return report.length();
    }

    public int reportByte(int i) {
        index(i >= 0 && i < report.length());
        return report.charAt(i);
    }

    public int save() {
        saved = state.copy();
        return setting(3);
    }

    public int restore() {
        if (saved == null) {
            throw new IllegalStateException();
        }
        state = saved.copy();
        undo.clear();
        return setting(3);
    }
}
