/**
 * Rows of small numbers, packed into words of 32 bits by nine ways.
 *
 * The rows, RULE, SKIP and prices (Rows) are the whole truth; the words (Packing) follow from them and are
 * made anew behind every change. All objects are made in the constructor, so that no call costs room.
 */
public final class NineWays {
    public static final int NONE = -1;

    private static final int WAYS = 9;
    private static final int[] COUNT = {28, 14, 9, 7, 5, 4, 3, 2, 1};
    private static final int[] WIDTH = {1, 2, 3, 4, 5, 7, 9, 14, 28};
    private static final int WORD_BITS = 28;
    private static final int GREATEST_NUMBER = 268435455;

    private static final int MOST_ROWS = 4;
    private static final int MOST_NUMBERS = 60;
    private static final int MOST_TOGETHER = 2 * MOST_NUMBERS;
    private static final int MOST_LETTERS = 8;
    private static final int LETTER_BITS = 5;
    private static final int MOST_DIGITS = 9;
    private static final int MOST_BYTES = 600;
    private static final int FEED_BYTES = 20;
    private static final int MOST_RULE = 2;
    private static final int MOST_SKIP = 9;
    private static final int MOST_PRICE = 99;
    private static final int MOST_KEPT = 6;
    private static final int MOST_COMMANDS = 30;
    private static final int MOST_DONE = 40;
    private static final int MOST_DEPTH = 2;
    private static final int MOST_TIMES = 20;
    private static final int MOST_SCRIPT_NUMBER = 999999999;

    private static final int FINE = 0;
    private static final int BAD_INDEX = 1;
    private static final int BAD_ARGUMENT = 2;
    private static final int TOO_MANY_ROWS = 101;
    private static final int BAD_NAME = 102;
    private static final int TOO_MANY_NUMBERS = 103;

    private static final int ACTS = 0;
    private static final int REFUSALS = 1;
    private static final int UNDONE = 2;
    private static final int WORDS_READ = 3;
    private static final int ACCOUNTS = 4;

    private final Text text = new Text();
    private final Script script = new Script();
    private final Rows now = new Rows();
    private final SystemReader system = new SystemReader();
    private final Rows saved = new Rows();
    private final History past = new History();
    private final Packing[] packed = new Packing[MOST_ROWS];
    private final Planner planner = new Planner();
    private final Change call = new Change();
    private final Report latestReport = new Report();
    private final int[] accounts = new int[ACCOUNTS];
    private int latestRefusal;
    private boolean hasSaved;

    public NineWays() {
        for (int row = 0; row < MOST_ROWS; row++) {
            packed[row] = new Packing();
        }
    }

    // ---- texts

    public int feed(int a, int b, int c, int d, int e) throws IllegalStateException {
        if (text.length + FEED_BYTES > MOST_BYTES) {
            throw new IllegalStateException();
        }
        text.addBytesOf(a);
        text.addBytesOf(b);
        text.addBytesOf(c);
        text.addBytesOf(d);
        text.addBytesOf(e);
        return text.length;
    }

    public int truncate(int length) throws IllegalArgumentException {
        if (length < 0 || length > text.length) {
            throw new IllegalArgumentException();
        }
        text.length = length;
        return length;
    }

    public int readText() throws IllegalArgumentException {
        boolean good = system.readFrom(text);
        text.length = 0;
        if (!good) {
            throw new IllegalArgumentException();
        }
        now.copyFrom(system.rows);
        past.forget();
        packRows();
        return now.size;
    }

    public int runScript() throws IllegalArgumentException {
        boolean good = script.readFrom(text);
        text.length = 0;
        if (!good) {
            throw new IllegalArgumentException();
        }
        past.keep(now);
        script.done = 0;
        script.going = true;
        doSteps(0, script.size, 0);
        packRows();
        return script.done;
    }

    public int errorCode() {
        return text.faultCode;
    }

    public int errorPosition() {
        return text.faultPosition;
    }

    // ---- what there is

    public int setting(int what) throws IllegalArgumentException {
        switch (what) {
            case 0:
                return now.size;
            case 1:
                return now.rule;
            case 2:
                return now.skip;
            case 3:
                return now.allNumbers();
            case 4:
                return allWords();
            case 5:
                return allPrices();
            default:
                throw new IllegalArgumentException();
        }
    }

    public int letter(int row, int i) throws IndexOutOfBoundsException {
        checkRow(row);
        return letterOf(now.names[row], i);
    }

    public int way(int way, int what) throws IndexOutOfBoundsException, IllegalArgumentException {
        checkWay(way);
        switch (what) {
            case 0:
                return COUNT[way];
            case 1:
                return WIDTH[way];
            case 2:
                return now.prices[way];
            case 3:
                return allWordsOf(way);
            default:
                throw new IllegalArgumentException();
        }
    }

    public int row(int row, int what) throws IndexOutOfBoundsException, IllegalArgumentException {
        checkRow(row);
        Packing words = packed[row];
        switch (what) {
            case 0:
                return words.length;
            case 1:
                return words.size;
            case 2:
                return words.sumPrices(now.prices);
            case 3:
                return entriesOf(words);
            case 4:
                return words.emptyBits();
            case 5:
                return words.usedBits() - now.bitsNeeded(row);
            case 6:
                return words.setOfWays();
            default:
                throw new IllegalArgumentException();
        }
    }

    public int word(int row, int word) throws IndexOutOfBoundsException {
        checkWord(row, word);
        return packed[row].words[word];
    }

    public int wordPart(int row, int word, int what) throws IndexOutOfBoundsException, IllegalArgumentException {
        checkWord(row, word);
        Packing words = packed[row];
        switch (what) {
            case 0:
                return words.wayOf(word);
            case 1:
                return words.heldBy(word);
            case 2:
                return words.starts[word];
            case 3:
                return words.emptyBitsOf(word);
            default:
                throw new IllegalArgumentException();
        }
    }

    public long wordSum(int row, int word) throws IndexOutOfBoundsException {
        checkWord(row, word);
        int start = packed[row].starts[word];
        return now.sumOf(row, start, start + packed[row].heldBy(word));
    }

    public int entryStart(int row, int entry) throws IndexOutOfBoundsException {
        checkRow(row);
        if (!hasEntry(row, entry)) {
            return NONE;
        }
        return packed[row].startOf(entry * now.skip);
    }

    public long entrySum(int row, int entry) throws IndexOutOfBoundsException {
        checkRow(row);
        if (!hasEntry(row, entry)) {
            return NONE;
        }
        return now.sumOf(row, 0, packed[row].startOf(entry * now.skip));
    }

    public int why(int row, int word, int way) throws IndexOutOfBoundsException {
        checkWord(row, word);
        checkWay(way);
        if (packed[row].wayOf(word) == way) {
            return 0;
        }
        planner.load(now, row);
        planner.findTakeable();
        return planner.canTake(packed[row].starts[word], way) ? 2 : 1;
    }

    public int gap() {
        int different = 0;
        for (int row = 0; row < now.size; row++) {
            for (int i = 0; i < now.lengths[row]; i++) {
                if (packed[row].numberAt(i) != now.numbers[row][i]) {
                    different++;
                }
            }
        }
        return different;
    }

    public int find() {
        return now.rowNamed(text.wholeName());
    }

    // ---- reading

    public int read(int row, int i) throws IndexOutOfBoundsException {
        checkNumber(row, i);
        accounts[WORDS_READ] += readsOf(row, i, now.skip);
        return packed[row].numberAt(i);
    }

    public long sum(int row, int from, int to) throws IndexOutOfBoundsException, IllegalArgumentException {
        checkRow(row);
        if (from < 0 || from > to || to > now.lengths[row]) {
            throw new IllegalArgumentException();
        }
        accounts[WORDS_READ] += readsAhead(row, from) + readsAhead(row, to);
        return now.sumOf(row, 0, to) - now.sumOf(row, 0, from);
    }

    public int first(int row, int value) throws IndexOutOfBoundsException {
        checkRow(row);
        Packing words = packed[row];
        for (int word = 0; word < words.size; word++) {
            if (fits(value, words.wayOf(word))) {
                accounts[WORDS_READ]++;
                int i = words.indexIn(word, value);
                if (i != NONE) {
                    return i;
                }
            }
        }
        return NONE;
    }

    public int many(int row, int value) throws IndexOutOfBoundsException {
        checkRow(row);
        Packing words = packed[row];
        int times = 0;
        for (int word = 0; word < words.size; word++) {
            if (fits(value, words.wayOf(word))) {
                accounts[WORDS_READ]++;
                times += words.timesIn(word, value);
            }
        }
        return times;
    }

    public int readsFor(int row, int i) throws IndexOutOfBoundsException {
        checkNumber(row, i);
        return readsOf(row, i, now.skip);
    }

    public int greatest(int row) throws IndexOutOfBoundsException {
        checkRow(row);
        int most = NONE;
        for (int i = 0; i < now.lengths[row]; i++) {
            most = Math.max(most, now.numbers[row][i]);
        }
        return most;
    }

    // ---- means and shares

    public float filled() {
        int words = allWords();
        if (words == 0) {
            return 1.0f;
        }
        int bits = 0;
        for (int row = 0; row < now.size; row++) {
            bits += now.bitsNeeded(row);
        }
        return (float) bits / (float) (32 * words);
    }

    public double meanHeld(int row) throws IndexOutOfBoundsException {
        checkRow(row);
        int words = packed[row].size;
        if (words == 0) {
            return 0.0;
        }
        return (double) now.lengths[row] / (double) words;
    }

    // ---- what would be; nothing changes

    public int wordsBy(int row, int rule) throws IndexOutOfBoundsException, IllegalArgumentException {
        checkRow(row);
        checkArgument(rule, 0, MOST_RULE);
        planner.load(now, row);
        planner.choose(rule, now.prices);
        return planner.countWords();
    }

    public int priceBy(int row, int rule) throws IndexOutOfBoundsException, IllegalArgumentException {
        checkRow(row);
        checkArgument(rule, 0, MOST_RULE);
        planner.load(now, row);
        planner.choose(rule, now.prices);
        return planner.sumPrices(now.prices);
    }

    public int wordsIf(int row, int i, int value) throws IndexOutOfBoundsException, IllegalArgumentException {
        checkNumber(row, i);
        checkArgument(value, 0, GREATEST_NUMBER);
        planner.load(now, row);
        planner.replace(i, value);
        planner.choose(now.rule, now.prices);
        return planner.countWords();
    }

    public int bestRemove(int row) throws IndexOutOfBoundsException {
        checkRow(row);
        int best = NONE;
        int fewest = MOST_NUMBERS;
        for (int i = 0; i < now.lengths[row]; i++) {
            planner.load(now, row);
            planner.drop(i);
            planner.choose(now.rule, now.prices);
            int words = planner.countWords();
            if (words < fewest) {
                best = i;
                fewest = words;
            }
        }
        return best;
    }

    public int dearWay(int row) throws IndexOutOfBoundsException {
        checkRow(row);
        planner.load(now, row);
        planner.choose(1, now.prices);
        int fewest = planner.countWords();
        planner.choose(2, now.prices);
        int words = planner.countWords();
        // RULE 1 tells a bound that no prices can beat, so most rows need no search.
        if (words == fewest) {
            return NONE;
        }
        for (int way = 0; way < WAYS; way++) {
            if (planner.canGetBelow(words, way)) {
                return way;
            }
        }
        return NONE;
    }

    public int wordsTogether(int row, int other) throws IndexOutOfBoundsException {
        checkRow(row);
        checkRow(other);
        planner.load(now, row);
        planner.loadBehind(now, other);
        planner.choose(now.rule, now.prices);
        return planner.countWords();
    }

    public int bestSkip(int row) throws IndexOutOfBoundsException {
        checkRow(row);
        int length = now.lengths[row];
        if (length == 0) {
            return NONE;
        }
        int best = 1;
        int fewest = readsOfAll(row, 1);
        for (int skip = 2; skip <= MOST_SKIP; skip++) {
            int reads = readsOfAll(row, skip);
            if (reads <= fewest) {
                best = skip;
                fewest = reads;
            }
        }
        return best;
    }

    // ---- changes

    public int add() {
        call.command = Command.NEW;
        call.name = text.wholeName();
        int refused = doCall();
        if (refused != FINE) {
            return refused;
        }
        text.length = 0;
        return now.size - 1;
    }

    public int append(int row, int value) throws IndexOutOfBoundsException, IllegalArgumentException {
        call.command = Command.ADD;
        call.row = row;
        call.value = value;
        return wordsAfterCall();
    }

    public int put(int row, int i, int value) throws IndexOutOfBoundsException, IllegalArgumentException {
        call.command = Command.PUT;
        call.row = row;
        call.i = i;
        call.value = value;
        return wordsAfterCall();
    }

    public int insert(int row, int i, int value) throws IndexOutOfBoundsException, IllegalArgumentException {
        call.command = Command.INSERT;
        call.row = row;
        call.i = i;
        call.value = value;
        return wordsAfterCall();
    }

    public int remove(int row, int i) throws IndexOutOfBoundsException {
        call.command = Command.REMOVE;
        call.row = row;
        call.i = i;
        return wordsAfterCall();
    }

    public int join(int row, int other) throws IndexOutOfBoundsException {
        call.command = Command.JOIN;
        call.row = row;
        call.other = other;
        return wordsAfterCall();
    }

    public int setRule(int rule) throws IllegalArgumentException {
        int before = now.rule;
        call.command = Command.RULE;
        call.value = rule;
        doCall();
        return before;
    }

    public int setSkip(int skip) throws IllegalArgumentException {
        int before = now.skip;
        call.command = Command.SKIP;
        call.value = skip;
        doCall();
        return before;
    }

    public int setPrice(int way, int price) throws IndexOutOfBoundsException, IllegalArgumentException {
        checkWay(way);
        int before = now.prices[way];
        call.command = Command.PRICE;
        call.i = way;
        call.value = price;
        doCall();
        return before;
    }

    // ---- accounts, undo, reports, saving

    public int refusal() {
        return latestRefusal;
    }

    public int account(int what) throws IllegalArgumentException {
        checkArgument(what, 0, ACCOUNTS - 1);
        return accounts[what];
    }

    public int undo() {
        if (!past.takeBack(now)) {
            return NONE;
        }
        accounts[UNDONE]++;
        packRows();
        return past.size;
    }

    public int report(int row) throws IndexOutOfBoundsException {
        checkRow(row);
        latestReport.length = 0;
        latestReport.addName(now.names[row]);
        latestReport.addByte(':');
        for (int word = 0; word < packed[row].size; word++) {
            latestReport.addWord(packed[row], word);
        }
        latestReport.addByte('\n');
        return latestReport.length;
    }

    public int reportByte(int i) throws IndexOutOfBoundsException {
        if (i < 0 || i >= latestReport.length) {
            throw new IndexOutOfBoundsException();
        }
        return latestReport.bytes[i];
    }

    public int save() {
        saved.copyFrom(now);
        hasSaved = true;
        return now.allNumbers();
    }

    public int restore() throws IllegalStateException {
        if (!hasSaved) {
            throw new IllegalStateException();
        }
        now.copyFrom(saved);
        past.forget();
        packRows();
        return now.allNumbers();
    }

    // ---- checks of parameters

    private void checkRow(int row) {
        if (!now.has(row)) {
            throw new IndexOutOfBoundsException();
        }
    }

    private void checkNumber(int row, int i) {
        checkRow(row);
        if (i < 0 || i >= now.lengths[row]) {
            throw new IndexOutOfBoundsException();
        }
    }

    private void checkWord(int row, int word) {
        checkRow(row);
        if (word < 0 || word >= packed[row].size) {
            throw new IndexOutOfBoundsException();
        }
    }

    private static void checkWay(int way) {
        if (way < 0 || way >= WAYS) {
            throw new IndexOutOfBoundsException();
        }
    }

    private static void checkArgument(int value, int least, int most) {
        if (value < least || value > most) {
            throw new IllegalArgumentException();
        }
    }

    // ---- ways

    // An unknown way counts 1, so that a walk from word to word always gets on.
    private static int countOf(int way) {
        return way < 0 || way >= WAYS ? 1 : COUNT[way];
    }

    private static int widthOf(int way) {
        return way < 0 || way >= WAYS ? WORD_BITS : WIDTH[way];
    }

    private static int priceOf(int way, int[] prices) {
        return way < 0 || way >= prices.length ? 0 : prices[way];
    }

    private static boolean fits(int value, int way) {
        return value >= 0 && value < (1 << widthOf(way));
    }

    private static int bitsOf(int value) {
        int bits = 1;
        while (bits < WORD_BITS && (value >> bits) != 0) {
            bits++;
        }
        return bits;
    }

    // ---- names: a long with 5 bits for each letter, the first one lowest; 0 is no name

    private static long withLetter(long name, int i, int letter) {
        return name | ((long) letter << (LETTER_BITS * i));
    }

    private static int letterOf(long name, int i) {
        return i < 0 || i >= MOST_LETTERS ? 0 : (int) (name >> (LETTER_BITS * i)) & 31;
    }

    private static long nameOf(String word) {
        long name = 0;
        for (int i = 0; i < word.length() && i < MOST_LETTERS; i++) {
            name = withLetter(name, i, word.charAt(i) - 'a' + 1);
        }
        return name;
    }

    // ---- sums over words and entries

    private void packRows() {
        for (int row = 0; row < now.size; row++) {
            planner.load(now, row);
            planner.choose(now.rule, now.prices);
            packed[row].fillFrom(planner);
        }
    }

    private int allWords() {
        int words = 0;
        for (int row = 0; row < now.size; row++) {
            words += packed[row].size;
        }
        return words;
    }

    private int allPrices() {
        int prices = 0;
        for (int row = 0; row < now.size; row++) {
            prices += packed[row].sumPrices(now.prices);
        }
        return prices;
    }

    private int allWordsOf(int way) {
        int words = 0;
        for (int row = 0; row < now.size; row++) {
            words += packed[row].wordsOf(way);
        }
        return words;
    }

    private int entriesOf(Packing words) {
        int entries = 0;
        while (entries < words.size && entries * now.skip < words.size) {
            entries++;
        }
        return entries;
    }

    private boolean hasEntry(int row, int entry) {
        return entry >= 0 && entry < entriesOf(packed[row]);
    }

    // The entry ahead of a word is for the nearest multiple of SKIP at or below it.
    private static int wordsBehindEntry(int word, int skip) {
        return skip < 1 ? 0 : word % skip;
    }

    private int readsOf(int row, int i, int skip) {
        return wordsBehindEntry(packed[row].wordAt(i), skip) + 1;
    }

    private int readsOfAll(int row, int skip) {
        int reads = 0;
        for (int i = 0; i < now.lengths[row]; i++) {
            reads += readsOf(row, i, skip);
        }
        return reads;
    }

    private int readsAhead(int row, int i) {
        Packing words = packed[row];
        int last = words.wordAt(i);
        int reads = 0;
        for (int word = last - wordsBehindEntry(last, now.skip); word < words.size && words.startOf(word) < i; word++) {
            reads++;
        }
        return reads;
    }

    // ---- doing changes

    private int wordsAfterCall() {
        int refused = doCall();
        return refused != FINE || !now.has(call.row) ? refused : packed[call.row].size;
    }

    // Answers FINE, or 0 less the reason of a refusal.
    private int doCall() {
        int verdict = verdictOn(call);
        if (verdict == BAD_INDEX) {
            throw new IndexOutOfBoundsException();
        }
        if (verdict == BAD_ARGUMENT) {
            throw new IllegalArgumentException();
        }
        if (verdict != FINE) {
            noteRefusal(verdict);
            return -verdict;
        }
        past.keep(now);
        doChange(call);
        packRows();
        return FINE;
    }

    private void doSteps(int from, int to, int depth) {
        for (int k = from; k < to && k < script.size && script.going; k = Math.max(k + 1, script.steps[k].end)) {
            Change step = script.steps[k];
            if (step.command == Command.REPEAT) {
                doRepeat(step, k + 1, depth);
            } else {
                doStep(step);
            }
        }
    }

    // The guard on depth can't be met: the reader lets no "repeat" in that stands deeper.
    private void doRepeat(Change step, int from, int depth) {
        if (depth >= MOST_DEPTH) {
            return;
        }
        for (int times = 0; times < step.value && script.going; times++) {
            doSteps(from, step.end, depth + 1);
        }
    }

    private void doStep(Change step) {
        step.row = now.rowNamed(step.name);
        step.other = now.rowNamed(step.otherName);
        int verdict = verdictOn(step);
        if (verdict == FINE) {
            doChange(step);
            script.done++;
            script.going = script.done < MOST_DONE;
            return;
        }
        script.going = false;
        if (verdict != BAD_INDEX && verdict != BAD_ARGUMENT) {
            noteRefusal(verdict);
        }
    }

    private void noteRefusal(int reason) {
        latestRefusal = reason;
        accounts[REFUSALS]++;
    }

    // What stands against a change: FINE, a kind of exception, or the reason of a refusal.
    private int verdictOn(Change change) {
        switch (change.command) {
            case NEW:
                return verdictOnNew(change.name);
            case ADD:
                return verdictOnInsert(change.row, now.lengthOf(change.row), change.value);
            case INSERT:
                return verdictOnInsert(change.row, change.i, change.value);
            case PUT:
                return now.hasNumber(change.row, change.i) ? verdictOnRange(change.value, 0, GREATEST_NUMBER) : BAD_INDEX;
            case REMOVE:
                return now.hasNumber(change.row, change.i) ? FINE : BAD_INDEX;
            case JOIN:
                return verdictOnJoin(change.row, change.other);
            case RULE:
                return verdictOnRange(change.value, 0, MOST_RULE);
            case SKIP:
                return verdictOnRange(change.value, 1, MOST_SKIP);
            case PRICE:
                return change.i < 0 || change.i >= WAYS ? BAD_INDEX : verdictOnRange(change.value, 0, MOST_PRICE);
            default:
                return BAD_ARGUMENT;
        }
    }

    private int verdictOnNew(long name) {
        if (now.size >= MOST_ROWS) {
            return TOO_MANY_ROWS;
        }
        return name == 0 || now.rowNamed(name) != NONE ? BAD_NAME : FINE;
    }

    private int verdictOnInsert(int row, int i, int value) {
        if (!now.has(row) || i < 0 || i > now.lengthOf(row)) {
            return BAD_INDEX;
        }
        if (value < 0 || value > GREATEST_NUMBER) {
            return BAD_ARGUMENT;
        }
        return now.lengthOf(row) >= MOST_NUMBERS ? TOO_MANY_NUMBERS : FINE;
    }

    private int verdictOnJoin(int row, int other) {
        if (!now.has(row) || !now.has(other)) {
            return BAD_INDEX;
        }
        return now.lengthOf(row) + now.lengthOf(other) > MOST_NUMBERS ? TOO_MANY_NUMBERS : FINE;
    }

    private static int verdictOnRange(int value, int least, int most) {
        return value < least || value > most ? BAD_ARGUMENT : FINE;
    }

    private void doChange(Change change) {
        accounts[ACTS]++;
        switch (change.command) {
            case NEW:
                now.addRow(change.name);
                break;
            case ADD:
                now.insertNumber(change.row, now.lengthOf(change.row), change.value);
                break;
            case INSERT:
                now.insertNumber(change.row, change.i, change.value);
                break;
            case PUT:
                now.putNumber(change.row, change.i, change.value);
                break;
            case REMOVE:
                now.removeNumber(change.row, change.i);
                break;
            case JOIN:
                now.joinRows(change.row, change.other);
                break;
            case RULE:
                now.rule = change.value;
                break;
            case SKIP:
                now.skip = change.value;
                break;
            case PRICE:
                now.putPrice(change.i, change.value);
                break;
            default:
                break;
        }
    }

    /** All that can be undone, saved and read from a text. */
    private static final class Rows {
        final long[] names = new long[MOST_ROWS];
        final int[] lengths = new int[MOST_ROWS];
        final int[][] numbers = new int[MOST_ROWS][MOST_NUMBERS];
        final int[] prices = new int[WAYS];
        int size;
        int rule;
        int skip;

        Rows() {
            clearAll();
        }

        void clearAll() {
            size = 0;
            rule = 0;
            skip = 4;
            for (int way = 0; way < WAYS; way++) {
                prices[way] = 1;
            }
        }

        void copyFrom(Rows other) {
            size = other.size;
            rule = other.rule;
            skip = other.skip;
            System.arraycopy(other.prices, 0, prices, 0, WAYS);
            System.arraycopy(other.names, 0, names, 0, MOST_ROWS);
            System.arraycopy(other.lengths, 0, lengths, 0, MOST_ROWS);
            for (int row = 0; row < MOST_ROWS; row++) {
                System.arraycopy(other.numbers[row], 0, numbers[row], 0, MOST_NUMBERS);
            }
        }

        boolean has(int row) {
            return row >= 0 && row < size;
        }

        int lengthOf(int row) {
            return has(row) ? lengths[row] : 0;
        }

        boolean hasNumber(int row, int i) {
            return has(row) && i >= 0 && i < lengths[row];
        }

        int rowNamed(long name) {
            for (int row = 0; row < size; row++) {
                if (names[row] == name) {
                    return row;
                }
            }
            return NONE;
        }

        int allNumbers() {
            int all = 0;
            for (int row = 0; row < size; row++) {
                all += lengths[row];
            }
            return all;
        }

        long sumOf(int row, int from, int to) {
            long sum = 0;
            for (int i = Math.max(from, 0); i < to && i < lengthOf(row); i++) {
                sum += numbers[row][i];
            }
            return sum;
        }

        int bitsNeeded(int row) {
            int bits = 0;
            for (int i = 0; i < lengthOf(row); i++) {
                bits += bitsOf(numbers[row][i]);
            }
            return bits;
        }

        void addRow(long name) {
            if (size < MOST_ROWS) {
                names[size] = name;
                lengths[size] = 0;
                size++;
            }
        }

        void putNumber(int row, int i, int value) {
            if (hasNumber(row, i)) {
                numbers[row][i] = value;
            }
        }

        void insertNumber(int row, int i, int value) {
            if (!has(row) || i < 0 || i > lengths[row] || lengths[row] >= MOST_NUMBERS) {
                return;
            }
            System.arraycopy(numbers[row], i, numbers[row], i + 1, lengths[row] - i);
            numbers[row][i] = value;
            lengths[row]++;
        }

        void removeNumber(int row, int i) {
            if (hasNumber(row, i)) {
                System.arraycopy(numbers[row], i + 1, numbers[row], i, lengths[row] - i - 1);
                lengths[row]--;
            }
        }

        void joinRows(int row, int other) {
            if (!has(row) || !has(other) || lengths[row] + lengths[other] > MOST_NUMBERS) {
                return;
            }
            System.arraycopy(numbers[other], 0, numbers[row], lengths[row], lengths[other]);
            lengths[row] += lengths[other];
        }

        void putPrice(int way, int price) {
            if (way >= 0 && way < WAYS) {
                prices[way] = price;
            }
        }
    }

    /** The latest states ahead of changes, in a ring. */
    private static final class History {
        private final Rows[] kept = new Rows[MOST_KEPT];
        private int next;
        int size;

        History() {
            for (int k = 0; k < MOST_KEPT; k++) {
                kept[k] = new Rows();
            }
        }

        void forget() {
            size = 0;
        }

        void keep(Rows rows) {
            kept[next].copyFrom(rows);
            next = next + 1 < MOST_KEPT ? next + 1 : 0;
            size = Math.min(size + 1, MOST_KEPT);
        }

        boolean takeBack(Rows rows) {
            if (size == 0) {
                return false;
            }
            next = next > 0 ? next - 1 : MOST_KEPT - 1;
            rows.copyFrom(kept[next]);
            size--;
            return true;
        }
    }

    /** Chooses ways for a copy of numbers, which may be tried with changes. */
    private static final class Planner {
        // More than the words that there can be, so that the sum of PRICES always comes ahead of their number.
        private static final int PRICE_SCALE = 1024;
        private static final int ABOVE_ALL_COSTS = 1 << 30;

        private final int[] numbers = new int[MOST_TOGETHER];
        private final int[] takeable = new int[MOST_TOGETHER];
        private final int[] chosen = new int[MOST_TOGETHER];
        private final int[] best = new int[MOST_TOGETHER + 1];
        private final int[] costs = new int[WAYS];
        private final int[] runs = new int[WAYS];
        private int length;

        void load(Rows rows, int row) {
            length = 0;
            loadBehind(rows, row);
        }

        void loadBehind(Rows rows, int row) {
            int more = Math.min(rows.lengthOf(row), MOST_TOGETHER - length);
            if (more > 0) {
                System.arraycopy(rows.numbers[row], 0, numbers, length, more);
                length += more;
            }
        }

        void replace(int i, int value) {
            if (i >= 0 && i < length) {
                numbers[i] = value;
            }
        }

        void drop(int i) {
            if (i >= 0 && i < length) {
                System.arraycopy(numbers, i + 1, numbers, i, length - i - 1);
                length--;
            }
        }

        // From the end on, a run tells how many numbers in a row a way can hold.
        void findTakeable() {
            for (int way = 0; way < WAYS; way++) {
                runs[way] = 0;
            }
            for (int i = length - 1; i >= 0; i--) {
                takeable[i] = 0;
                for (int way = 0; way < WAYS; way++) {
                    runs[way] = fits(numbers[i], way) ? runs[way] + 1 : 0;
                    if (runs[way] >= Math.min(countOf(way), length - i)) {
                        takeable[i] |= 1 << way;
                    }
                }
            }
        }

        boolean canTake(int i, int way) {
            return i >= 0 && i < length && ((takeable[i] >> way) & 1) == 1;
        }

        void choose(int rule, int[] prices) {
            findTakeable();
            for (int way = 0; way < WAYS; way++) {
                costs[way] = rule == 2 ? prices[way] * PRICE_SCALE + 1 : 1;
            }
            if (rule == 0) {
                chooseLowest();
            } else {
                chooseCheapest();
            }
        }

        private void chooseLowest() {
            for (int i = 0; i < length; i++) {
                int way = 0;
                while (way < WAYS - 1 && !canTake(i, way)) {
                    way++;
                }
                chosen[i] = way;
            }
        }

        // Of equal costs the lower way stays; from the front this gives the first row of ways.
        private void chooseCheapest() {
            best[length] = 0;
            for (int i = length - 1; i >= 0; i--) {
                best[i] = ABOVE_ALL_COSTS;
                for (int way = 0; way < WAYS; way++) {
                    if (canTake(i, way)) {
                        int cost = costs[way] + best[Math.min(i + countOf(way), length)];
                        if (cost < best[i]) {
                            best[i] = cost;
                            chosen[i] = way;
                        }
                    }
                }
            }
        }

        // Comes behind choose() by RULE 2, whose costs it leaves as they were.
        boolean canGetBelow(int words, int way) {
            if (way < 0 || way >= WAYS) {
                return false;
            }
            int cost = costs[way];
            boolean found = false;
            for (int price = 0; price <= MOST_PRICE && !found; price++) {
                costs[way] = price * PRICE_SCALE + 1;
                chooseCheapest();
                found = countWords() < words;
            }
            costs[way] = cost;
            return found;
        }

        int countWords() {
            int words = 0;
            for (int i = 0; i < length; i += countOf(chosen[i])) {
                words++;
            }
            return words;
        }

        int sumPrices(int[] prices) {
            int sum = 0;
            for (int i = 0; i < length; i += countOf(chosen[i])) {
                sum += priceOf(chosen[i], prices);
            }
            return sum;
        }

        int wordFrom(int i) {
            int way = chosen[i];
            int word = way << WORD_BITS;
            for (int j = 0; j < countOf(way) && i + j < length; j++) {
                word |= numbers[i + j] << (j * widthOf(way));
            }
            return word;
        }
    }

    /** The words of a row. */
    private static final class Packing {
        final int[] words = new int[MOST_NUMBERS];
        final int[] starts = new int[MOST_NUMBERS];
        int size;
        int length;

        void fillFrom(Planner planner) {
            size = 0;
            length = planner.length;
            for (int i = 0; i < length && size < MOST_NUMBERS; i += countOf(planner.chosen[i])) {
                starts[size] = i;
                words[size] = planner.wordFrom(i);
                size++;
            }
        }

        int startOf(int word) {
            return word < 0 || word >= size ? length : starts[word];
        }

        int wayOf(int word) {
            return word < 0 || word >= size ? 0 : words[word] >>> WORD_BITS;
        }

        int heldBy(int word) {
            return startOf(word + 1) - startOf(word);
        }

        int usedBits() {
            int bits = 0;
            for (int word = 0; word < size; word++) {
                bits += widthOf(wayOf(word)) * heldBy(word);
            }
            return bits;
        }

        int emptyBitsOf(int word) {
            return WORD_BITS - widthOf(wayOf(word)) * heldBy(word);
        }

        int emptyBits() {
            return WORD_BITS * size - usedBits();
        }

        int setOfWays() {
            int set = 0;
            for (int word = 0; word < size; word++) {
                set |= 1 << wayOf(word);
            }
            return set;
        }

        int wordsOf(int way) {
            int number = 0;
            for (int word = 0; word < size; word++) {
                if (wayOf(word) == way) {
                    number++;
                }
            }
            return number;
        }

        int sumPrices(int[] prices) {
            int sum = 0;
            for (int word = 0; word < size; word++) {
                sum += priceOf(wayOf(word), prices);
            }
            return sum;
        }

        // The last word whose START is at most i; 0 without words.
        int wordAt(int i) {
            int word = 0;
            while (word + 1 < size && starts[word + 1] <= i) {
                word++;
            }
            return word;
        }

        int numberIn(int word, int j) {
            if (word < 0 || word >= size) {
                return 0;
            }
            int width = widthOf(wayOf(word));
            return (words[word] >> (j * width)) & ((1 << width) - 1);
        }

        int numberAt(int i) {
            int word = wordAt(i);
            return numberIn(word, i - startOf(word));
        }

        int indexIn(int word, int value) {
            for (int j = 0; j < heldBy(word); j++) {
                if (numberIn(word, j) == value) {
                    return startOf(word) + j;
                }
            }
            return NONE;
        }

        int timesIn(int word, int value) {
            int times = 0;
            for (int j = 0; j < heldBy(word); j++) {
                if (numberIn(word, j) == value) {
                    times++;
                }
            }
            return times;
        }
    }

    /** The buffer, the token at which its reading stands, and the error of the latest reading. */
    private static final class Text {
        static final int END = 0;
        static final int WORD = 1;
        static final int NUMBER = 2;
        static final int SEMICOLON = 3;
        static final int OPEN = 4;
        static final int CLOSE = 5;
        static final int WRONG = 6;

        private final byte[] bytes = new byte[MOST_BYTES];
        int length;
        int kind;
        int number;
        long name;
        int faultCode;
        int faultPosition = NONE;
        private int start;
        private int next;

        void addBytesOf(int value) {
            for (int shift = 24; shift >= 0 && length < MOST_BYTES; shift -= 8) {
                bytes[length] = (byte) (value >> shift);
                length++;
            }
        }

        private int byteAt(int i) {
            return i < 0 || i >= length || i >= MOST_BYTES ? 0 : bytes[i];
        }

        private static boolean isLetter(int sign) {
            return sign >= 'a' && sign <= 'z';
        }

        private static boolean isDigit(int sign) {
            return sign >= '0' && sign <= '9';
        }

        private static boolean isBlank(int sign) {
            return sign == ' ' || sign == '\n';
        }

        // The whole buffer as a name; 0 if it is none.
        long wholeName() {
            start = 0;
            next = 0;
            takeWord();
            return kind == WORD && next == length ? name : 0;
        }

        void begin() {
            faultCode = 0;
            faultPosition = NONE;
            next = 0;
            advance();
        }

        void advance() {
            while (next < length && isBlank(byteAt(next))) {
                next++;
            }
            start = next;
            if (next >= length) {
                kind = END;
            } else if (isLetter(byteAt(next))) {
                takeWord();
            } else if (isDigit(byteAt(next))) {
                takeNumber();
            } else {
                kind = kindOfSign(byteAt(next));
                next++;
            }
        }

        private static int kindOfSign(int sign) {
            switch (sign) {
                case ';':
                    return SEMICOLON;
                case '(':
                    return OPEN;
                case ')':
                    return CLOSE;
                default:
                    return WRONG;
            }
        }

        private void takeWord() {
            name = 0;
            while (next < length && isLetter(byteAt(next))) {
                if (next - start < MOST_LETTERS) {
                    name = withLetter(name, next - start, byteAt(next) - 'a' + 1);
                }
                next++;
            }
            kind = next == start || next - start > MOST_LETTERS ? WRONG : WORD;
        }

        private void takeNumber() {
            number = 0;
            while (next < length && isDigit(byteAt(next))) {
                if (next - start < MOST_DIGITS) {
                    number = number * 10 + byteAt(next) - '0';
                }
                next++;
            }
            kind = next - start > MOST_DIGITS ? WRONG : NUMBER;
        }

        // Answers false, so that the readers can pass it on.
        boolean fail(int code) {
            faultCode = code;
            faultPosition = start;
            return false;
        }

        boolean isWord(String word) {
            return kind == WORD && name == nameOf(word);
        }

        boolean sees(int wanted) {
            return kind == wanted || fail(1);
        }

        boolean seesNumber(int least, int most) {
            if (!sees(NUMBER)) {
                return false;
            }
            return (number >= least && number <= most) || fail(2);
        }

        boolean passes(int wanted) {
            if (!sees(wanted)) {
                return false;
            }
            advance();
            return true;
        }
    }

    /** The rows of a system; each method that reads answers whether it met no error. */
    private static final class SystemReader {
        final Rows rows = new Rows();
        private int toldPrices;

        boolean readFrom(Text text) {
            rows.clearAll();
            toldPrices = 0;
            text.begin();
            if (!readPack(text) || !text.passes(Text.SEMICOLON)) {
                return false;
            }
            for (int k = 0; k < MOST_BYTES && text.kind != Text.END; k++) {
                if (!readStatement(text) || !text.passes(Text.SEMICOLON)) {
                    return false;
                }
            }
            return true;
        }

        private boolean readPack(Text text) {
            if (!text.isWord("pack")) {
                return text.fail(1);
            }
            text.advance();
            if (!text.seesNumber(0, MOST_RULE)) {
                return false;
            }
            rows.rule = text.number;
            text.advance();
            if (!text.seesNumber(1, MOST_SKIP)) {
                return false;
            }
            rows.skip = text.number;
            text.advance();
            return true;
        }

        private boolean readStatement(Text text) {
            if (text.isWord("row")) {
                return readRow(text);
            }
            if (text.isWord("price")) {
                return readPrice(text);
            }
            return text.isWord("fill") ? readFill(text) : text.fail(1);
        }

        private boolean readRow(Text text) {
            if (rows.size >= MOST_ROWS) {
                return text.fail(5);
            }
            text.advance();
            if (!text.sees(Text.WORD)) {
                return false;
            }
            if (rows.rowNamed(text.name) != NONE) {
                return text.fail(3);
            }
            rows.addRow(text.name);
            text.advance();
            return readNumbers(text, rows.size - 1);
        }

        private boolean readNumbers(Text text, int row) {
            for (int k = 0; k <= MOST_NUMBERS && text.kind == Text.NUMBER; k++) {
                if (!text.seesNumber(0, GREATEST_NUMBER)) {
                    return false;
                }
                if (rows.lengthOf(row) >= MOST_NUMBERS) {
                    return text.fail(5);
                }
                rows.insertNumber(row, rows.lengthOf(row), text.number);
                text.advance();
            }
            return true;
        }

        private boolean readPrice(Text text) {
            text.advance();
            if (!text.seesNumber(0, WAYS - 1)) {
                return false;
            }
            int way = text.number;
            if (((toldPrices >> way) & 1) == 1) {
                return text.fail(3);
            }
            toldPrices |= 1 << way;
            text.advance();
            if (!text.seesNumber(0, MOST_PRICE)) {
                return false;
            }
            rows.putPrice(way, text.number);
            text.advance();
            return true;
        }

        private boolean readFill(Text text) {
            text.advance();
            if (!text.sees(Text.WORD)) {
                return false;
            }
            int row = rows.rowNamed(text.name);
            if (row == NONE) {
                return text.fail(4);
            }
            text.advance();
            if (!text.seesNumber(1, MOST_NUMBERS)) {
                return false;
            }
            int times = text.number;
            if (rows.lengthOf(row) + times > MOST_NUMBERS) {
                return text.fail(5);
            }
            text.advance();
            if (!text.seesNumber(0, GREATEST_NUMBER)) {
                return false;
            }
            for (int k = 0; k < times; k++) {
                rows.insertNumber(row, rows.lengthOf(row), text.number);
            }
            text.advance();
            return true;
        }
    }

    /** The commands, with what stands behind their words: names, then perhaps an index or way, then perhaps a value. */
    private enum Command {
        NEW("new", 1, false, false),
        ADD("add", 1, false, true),
        PUT("put", 1, true, true),
        INSERT("insert", 1, true, true),
        REMOVE("remove", 1, true, false),
        JOIN("join", 2, false, false),
        RULE("rule", 0, false, true),
        SKIP("skip", 0, false, true),
        PRICE("price", 0, true, true),
        REPEAT("repeat", 0, false, true);

        private static final Command[] ALL = values();

        final String word;
        final int names;
        final boolean hasIndex;
        final boolean hasValue;

        Command(String word, int names, boolean hasIndex, boolean hasValue) {
            this.word = word;
            this.names = names;
            this.hasIndex = hasIndex;
            this.hasValue = hasValue;
        }
    }

    /** A change with its parameters, by a call or by a script; there a "repeat", too. */
    private static final class Change {
        Command command = Command.NEW;
        long name;
        long otherName;
        int row;
        int other;
        int i;
        int value;
        int end;
    }

    /** The commands of a script; those in the brackets of a "repeat" stand behind it, up to its end. */
    private static final class Script {
        final Change[] steps = new Change[MOST_COMMANDS];
        private final int[] open = new int[MOST_DEPTH];
        private int depth;
        int size;
        int done;
        boolean going;

        Script() {
            for (int k = 0; k < MOST_COMMANDS; k++) {
                steps[k] = new Change();
            }
        }

        boolean readFrom(Text text) {
            size = 0;
            depth = 0;
            text.begin();
            // Each round takes a token at least, and so a byte.
            for (int k = 0; k < MOST_BYTES && (depth > 0 || text.kind != Text.END); k++) {
                boolean good = depth > 0 && text.kind == Text.CLOSE ? closeRepeat(text) : readCommand(text);
                if (!good) {
                    return false;
                }
            }
            return true;
        }

        private boolean closeRepeat(Text text) {
            depth--;
            steps[open[depth]].end = size;
            text.advance();
            return text.passes(Text.SEMICOLON);
        }

        private boolean readCommand(Text text) {
            Command command = commandAt(text);
            if (command == null) {
                return text.fail(1);
            }
            if (command == Command.REPEAT && depth >= MOST_DEPTH) {
                return text.fail(3);
            }
            if (size >= MOST_COMMANDS) {
                return text.fail(5);
            }
            Change step = steps[size];
            size++;
            step.command = command;
            step.end = size;
            text.advance();
            if (!readNames(text, step) || !readNumbers(text, step)) {
                return false;
            }
            if (command != Command.REPEAT) {
                return text.passes(Text.SEMICOLON);
            }
            open[depth] = size - 1;
            depth++;
            return text.passes(Text.OPEN);
        }

        private static Command commandAt(Text text) {
            for (int k = 0; k < Command.ALL.length; k++) {
                if (text.isWord(Command.ALL[k].word)) {
                    return Command.ALL[k];
                }
            }
            return null;
        }

        private static boolean readNames(Text text, Change step) {
            step.name = 0;
            step.otherName = 0;
            if (step.command.names > 0) {
                step.name = text.name;
                if (!text.passes(Text.WORD)) {
                    return false;
                }
            }
            if (step.command.names > 1) {
                step.otherName = text.name;
                return text.passes(Text.WORD);
            }
            return true;
        }

        private static boolean readNumbers(Text text, Change step) {
            if (step.command.hasIndex) {
                if (!text.seesNumber(0, MOST_SCRIPT_NUMBER)) {
                    return false;
                }
                step.i = text.number;
                text.advance();
            }
            if (step.command.hasValue) {
                boolean repeats = step.command == Command.REPEAT;
                if (!text.seesNumber(repeats ? 1 : 0, repeats ? MOST_TIMES : MOST_SCRIPT_NUMBER)) {
                    return false;
                }
                step.value = text.number;
                text.advance();
            }
            return true;
        }
    }

    /** The latest report. */
    private static final class Report {
        // A name, a colon and a line feed; each number may have a word of its own: a way, brackets and nine digits.
        private static final int MOST = MOST_LETTERS + 2 + MOST_NUMBERS * 12;

        final byte[] bytes = new byte[MOST];
        int length;

        void addByte(int value) {
            if (length < MOST) {
                bytes[length] = (byte) value;
                length++;
            }
        }

        void addName(long name) {
            for (int i = 0; i < MOST_LETTERS && letterOf(name, i) != 0; i++) {
                addByte('a' - 1 + letterOf(name, i));
            }
        }

        void addWord(Packing packing, int word) {
            addByte('0' + packing.wayOf(word));
            addByte('(');
            for (int j = 0; j < packing.heldBy(word); j++) {
                if (j > 0) {
                    addByte(',');
                }
                addNumber(packing.numberIn(word, j));
            }
            addByte(')');
        }

        private void addNumber(int value) {
            boolean started = false;
            for (int unit = 100000000; unit > 0; unit /= 10) {
                started = started || unit == 1 || value >= unit;
                if (started) {
                    addByte('0' + (value / unit) % 10);
                }
            }
        }
    }
}
