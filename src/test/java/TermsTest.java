/** Sections 1 to 5 of the document: each sentence that names a boundary, looked at from both sides of it. */
public final class TermsTest {
    private static final int MOST = 268435455;
    private static final int[] COUNT = {28, 14, 9, 7, 5, 4, 3, 2, 1};
    private static final int[] WIDTH = {1, 2, 3, 4, 5, 7, 9, 14, 28};
    // The greatest number that each way can hold.
    private static final int[] WIDEST = {1, 3, 7, 15, 31, 127, 511, 16383, MOST};

    public static void main(String[] args) {
        calls();
        rows();
        ways();
        words();
        wordsAsInts();
        wordsFollow();
        whatCanBeTaken();
        rule0();
        rule1();
        rule2();
        asGood();
        entries();
        reading();
        sumsAhead();
        looking();
        tokens();
        grammar();
        statements();
        positions();
        systemCodes();
        scriptTokens();
        scriptCommands();
        scriptCodes();
        scriptEnds();
        Checks.end("TermsTest");
    }

    /** A text whose first error is at the token that "behind" begins with. */
    private static void fault(int code, String ahead, String behind) {
        Checks.due("\"" + ahead + behind + "\"", Checks.systemError(ahead + behind), code + " at " + ahead.length());
    }

    private static void scriptFault(int code, String ahead, String behind) {
        Checks.due("\"" + ahead + behind + "\"", Checks.scriptError(ahead + behind), code + " at " + ahead.length());
    }

    private static void fine(String text) {
        Checks.due("\"" + text + "\"", Checks.systemError(text), "0 at -1");
    }

    private static void scriptFine(String text) {
        Checks.due("\"" + text + "\"", Checks.scriptError(text), "0 at -1");
    }

    private static void reportIs(String text, String want) {
        Checks.due(text, Checks.report(Checks.of(text), 0), want + "\n");
    }

    private static String times(int times, int number) {
        return (" " + number).repeat(times);
    }

    // ---- 1. rows, ways, words

    private static void calls() {
        Checks.says("An object is used for at most 512 calls after it has been made");
        NineWays x = new NineWays();
        x.feed(0x61000000, 0, 0, 0, 0);
        x.truncate(1);
        x.add();
        for (int call = 4; call < 512; call++) {
            if (call % 2 == 0) {
                x.append(0, call);
            } else {
                x.remove(0, 0);
            }
        }
        Checks.due("the 512th call", x.account(0), 509);
    }

    private static void rows() {
        Checks.says("There are at most 4 rows");
        NineWays x = Checks.of("pack 0 4;row a;row b;row c;");
        Checks.due("the fourth by add()", Checks.added(x, "d"), 3);
        Checks.due("a fifth by add()", Checks.added(x, "e"), -101);
        Checks.due("a fifth by a script", Checks.run(x, "new e;"), 0);
        Checks.due("there are four", x.setting(0), 4);
        Checks.due("the fourth by a script", Checks.run(Checks.of("pack 0 4;row a;row b;row c;"), "new d;new e;"), 1);
        Checks.due("four by a text", Checks.of("pack 0 4;row a;row b;row c;row d;").setting(0), 4);
        fault(5, "pack 0 4;row a;row b;row c;row d;", "row e;");

        Checks.says("numbered from 0");
        Checks.due("the first row", x.letter(0, 0), 1);
        Checks.due("the fourth row", x.letter(3, 0), 4);
        Checks.badIndex("row 4", () -> x.letter(4, 0));
        Checks.badIndex("row -1", () -> x.letter(-1, 0));

        Checks.says("at most 60 numbers");
        NineWays y = Checks.of("pack 0 4;row a;fill a 59 1;row b" + times(60, 1) + ";row c;fill c 30 1;row d;fill d 31 1;");
        Checks.due("the 60th by append()", y.append(0, 1), 3);
        Checks.due("the 61st by append()", y.append(0, 1), -103);
        Checks.due("the 61st by insert()", y.insert(1, 0, 1), -103);
        Checks.due("the 61st by a script", Checks.run(y, "add a 1;"), 0);
        Checks.due("60 by join()", y.join(2, 2), 3);
        Checks.due("62 by join()", y.join(3, 3), -103);
        Checks.due("in all", y.setting(3), 60 + 60 + 60 + 31);
        fault(5, "pack 0 4;row b" + times(60, 1) + " ", "1;");
        fault(5, "pack 0 4;row a;fill a 59 1;fill a ", "2 1;");
        fine("pack 0 4;row a;fill a 59 1;fill a 1 1;");

        Checks.says("(0 to 268435455)");
        NineWays z = Checks.of("pack 0 4;row a 0 268435455;");
        Checks.due("the least", z.read(0, 0), 0);
        Checks.due("the greatest", z.read(0, 1), MOST);
        Checks.due("the least by put()", z.put(0, 1, 0), 1);
        Checks.due("the greatest by put()", z.put(0, 0, MOST), 2);
        Checks.badArgument("one less", () -> z.append(0, -1));
        Checks.badArgument("one more", () -> z.append(0, MOST + 1));
        fault(2, "pack 0 4;row a ", "268435456;");
        fault(1, "pack 0 4;row a ", "-1;");
        Checks.due("one more by a script", Checks.run(z, "add a 268435455;add a 268435456;"), 1);

        Checks.says("with indexes from 0");
        Checks.due("the first", y.read(1, 0), 1);
        Checks.due("the last", y.read(1, 59), 1);
        Checks.badIndex("behind the last", () -> y.read(1, 60));
        Checks.badIndex("ahead of the first", () -> y.read(1, -1));
    }

    private static void ways() {
        NineWays x = new NineWays();
        Checks.says("A way is 0 to 8.");
        Checks.due("the first", x.way(0, 0), 28);
        Checks.due("the last", x.way(8, 0), 1);
        Checks.badIndex("below", () -> x.way(-1, 0));
        Checks.badIndex("above", () -> x.way(9, 0));

        Checks.says("28 numbers of 1 bit, 14 of 2, 9 of 3, 7 of 4, 5 of 5, 4 of 7, 3 of 9, 2 of 14, 1 of 28 (the ways 0 to 8 in this order)");
        for (int way = 0; way < 9; way++) {
            Checks.due("COUNT of " + way, x.way(way, 0), COUNT[way]);
            Checks.due("WIDTH of " + way, x.way(way, 1), WIDTH[way]);
        }

        Checks.says("it is below 2 to the power of WIDTH");
        for (int way = 0; way < 9; way++) {
            reportIs("pack 0 4;row a " + WIDEST[way] + ";", "a:" + way + "(" + WIDEST[way] + ")");
            if (way < 8) {
                int more = WIDEST[way] + 1;
                reportIs("pack 0 4;row a " + more + ";", "a:" + (way + 1) + "(" + more + ")");
            }
        }
        reportIs("pack 0 4;row a 0;", "a:0(0)");
    }

    private static void words() {
        Checks.says("The words of a row, numbered from 0, hold its numbers in their order.");
        NineWays order = Checks.of("pack 0 4;row a 3 20000 1 2 0 9 20001;");
        Checks.due("row a", Checks.report(order, 0), "a:8(3)8(20000)5(1,2,0,9)8(20001)\n");
        Checks.due("word 0", order.word(0, 0), Integer.MIN_VALUE + 3);
        Checks.due("word 3", order.word(0, 3), Integer.MIN_VALUE + 20001);
        Checks.badIndex("word 4", () -> order.word(0, 4));
        Checks.badIndex("word -1", () -> order.word(0, -1));

        Checks.says("It holds COUNT numbers, but the last word of the row may hold fewer (one at least).");
        for (int way = 0; way < 9; way++) {
            NineWays full = Checks.of("pack 0 4;row a" + times(COUNT[way], WIDEST[way]) + ";");
            Checks.due("words of COUNT numbers, way " + way, full.row(0, 1), 1);
            Checks.due("its way is " + way, full.wordPart(0, 0, 0), way);
            Checks.due("it holds COUNT of way " + way, full.wordPart(0, 0, 1), COUNT[way]);
            full.append(0, WIDEST[way]);
            Checks.due("words of one more, way " + way, full.row(0, 1), 2);
            Checks.due("the first one holds COUNT of way " + way, full.wordPart(0, 0, 1), COUNT[way]);
            Checks.due("the last one holds one, way " + way, full.wordPart(0, 1, 1), 1);
            Checks.due("its way, too, is " + way, full.wordPart(0, 1, 0), way);
            if (way < 8) {
                full.remove(0, 0);
                full.remove(0, 0);
                Checks.due("words of one less, way " + way, full.row(0, 1), 1);
                Checks.due("it holds fewer, way " + way, full.wordPart(0, 0, 1), COUNT[way] - 1);
            }
        }
        NineWays none = Checks.of("pack 0 4;row a;");
        Checks.due("no word holds nothing", none.row(0, 1), 0);
        none.append(0, 1);
        none.remove(0, 0);
        Checks.due("nor once its number is gone", none.row(0, 1), 0);

        Checks.says("START of a word is how many numbers the words ahead of it hold.");
        NineWays x = Checks.of("pack 0 4;row a 16384 1 9000 20000;row b;fill b 60 16384;row c;fill c 60 0;");
        int[] starts = {0, 1, 3};
        for (int word = 0; word < 3; word++) {
            Checks.due("of word " + word, x.wordPart(0, word, 2), starts[word]);
        }
        Checks.due("of the 60th word", x.wordPart(1, 59, 2), 59);
        Checks.due("of a word behind 56 numbers", x.wordPart(2, 2, 2), 56);
    }

    private static void wordsAsInts() {
        int[] full = {0x0fffffff, 0x1fffffff, 0x27ffffff, 0x3fffffff, 0x41ffffff, 0x5fffffff, 0x67ffffff, 0x7fffffff, 0x8fffffff};
        int[] single = {0x00000001, 0x10000003, 0x20000007, 0x3000000f, 0x4000001f, 0x5000007f, 0x600001ff, 0x70003fff, 0x8fffffff};
        Checks.says("As an int, it is 268435456 times the way (as an int it may be negative)");
        for (int way = 0; way < 9; way++) {
            Checks.due("full, way " + way, Checks.of("pack 0 4;row a" + times(COUNT[way], WIDEST[way]) + ";").word(0, 0), full[way]);
        }
        Checks.due("the least", Checks.of("pack 2 4;price 8 0;row a 0;").word(0, 0), Integer.MIN_VALUE);
        Checks.due("way 0 with zeros", Checks.of("pack 0 4;row a" + times(28, 0) + ";").word(0, 0), 0);

        Checks.says("plus the number j of the word (from 0) times 2 to the power of (j * WIDTH), for each");
        Checks.due("way 4", Checks.of("pack 0 4;row a 1 0 0 16;").word(0, 0), 0x40000001 + 16 * 32768);
        Checks.due("the last of way 0", Checks.of("pack 0 4;row a" + times(27, 0) + " 1;").word(0, 0), 1 << 27);
        Checks.due("the second of way 7", Checks.of("pack 0 4;row a 0 8192;").word(0, 0), 0x70000000 + (8192 << 14));

        Checks.says("all other bits are 0");
        for (int way = 0; way < 9; way++) {
            Checks.due("one number, way " + way, Checks.of("pack 0 4;row a " + WIDEST[way] + ";").word(0, 0), single[way]);
        }
        NineWays x = Checks.of("pack 0 4;row a" + times(5, 31) + ";");
        x.remove(0, 4);
        Checks.due("what held a number that went", x.word(0, 0), 0x400fffff);
    }

    // ---- 2. rules

    private static String both(NineWays x) {
        return (Checks.report(x, 0) + Checks.report(x, 1)).replace('\n', ' ');
    }

    private static void wordsFollow() {
        Checks.says("The words of each row are always those of the present RULE and prices: after each change they are what the rule gives for the numbers then.");
        NineWays x = Checks.of("pack 0 4;price 8 0;row a 5 5;row b 6;");
        Checks.due("by a text", both(x), "a:2(5,5) b:2(6) ");
        x.setRule(2);
        Checks.due("setRule()", both(x), "a:8(5)8(5) b:8(6) ");
        x.save();
        x.setPrice(8, 9);
        Checks.due("setPrice()", both(x), "a:2(5,5) b:2(6) ");
        x.append(0, 16);
        x.put(1, 0, 8);
        Checks.due("append() and put()", both(x), "a:4(5,5,16) b:3(8) ");
        x.insert(1, 0, 1);
        x.remove(0, 2);
        Checks.due("insert() and remove()", both(x), "a:2(5,5) b:3(1,8) ");
        x.join(0, 1);
        Checks.due("join()", both(x), "a:3(5,5,1,8) b:3(1,8) ");
        x.undo();
        Checks.due("undo()", both(x), "a:2(5,5) b:3(1,8) ");
        Checks.run(x, "price 3 99;add b 0;");
        Checks.due("a script", both(x), "a:2(5,5) b:4(1,8,0) ");
        x.undo();
        Checks.due("undo() of a script", both(x), "a:2(5,5) b:3(1,8) ");
        x.restore();
        Checks.due("restore()", both(x), "a:8(5)8(5) b:8(6) ");
        Checks.load(x, "pack 0 4;row a 5 5;row b 6;");
        x.readText();
        Checks.due("another text", both(x), "a:2(5,5) b:2(6) ");
        x.setPrice(8, 0);
        Checks.due("prices are nothing to RULE 0", both(x), "a:2(5,5) b:2(6) ");
        x.setSkip(9);
        Checks.due("nor is SKIP", both(x), "a:2(5,5) b:2(6) ");
    }

    private static void whatCanBeTaken() {
        Checks.says("From an index on a way can be taken if each of the next COUNT numbers (or of those that are left, if they are fewer) can be held by it.");
        for (int way = 0; way < 8; way++) {
            NineWays x = Checks.of("pack 0 4;row a" + times(COUNT[way], WIDEST[way]) + " 268435455;");
            Checks.due("a wide number behind COUNT of way " + way, x.wordPart(0, 0, 0), way);
            x.remove(0, 0);
            Checks.due("a wide number as the last of COUNT of way " + way, x.wordPart(0, 0, 0) > way, true);
            Checks.due("why way " + way + " is not taken", x.why(0, 0, way), 1);
            x.remove(0, COUNT[way] - 1);
            Checks.due("those that are left, way " + way, x.wordPart(0, 0, 0), way);
        }
        NineWays one = Checks.of("pack 0 4;row a 0;");
        for (int way = 0; way < 9; way++) {
            Checks.due("one that is left, way " + way, one.why(0, 0, way), way == 0 ? 0 : 2);
        }

        Checks.says("Each way has a PRICE (0 to 99; 1 at first).");
        NineWays x = Checks.of("pack 0 4;row a;");
        for (int way = 0; way < 9; way++) {
            Checks.due("at first, way " + way, x.way(way, 2), 1);
            Checks.due("0 for way " + way, x.setPrice(way, 0), 1);
            Checks.due("99 for way " + way, x.setPrice(way, 99), 0);
        }
        Checks.badArgument("100", () -> x.setPrice(3, 100));
        Checks.badArgument("-1", () -> x.setPrice(3, -1));
        Checks.due("by a script", Checks.run(x, "price 0 0;price 1 99;price 2 100;"), 2);
        fine("pack 0 4;price 0 0;price 1 99;");
        fault(2, "pack 0 4;price 0 ", "100;");
    }

    // The lowest way for the first word leads to more words in all.
    private static final String GREEDY = "row a 20 1 1 1 9 9 9 9 9 9 9 20000;";

    private static void rule0() {
        Checks.says("RULE 0: each word, from the first one on, has the lowest way that can be taken.");
        reportIs("pack 0 4;" + GREEDY, "a:4(20,1,1,1,9)4(9,9,9,9,9)8(9)8(20000)");
        reportIs("pack 0 4;row a" + times(27, 1) + " 2;", "a:1(" + "1,".repeat(13) + "1)1(" + "1,".repeat(13) + "2)");
        reportIs("pack 0 4;price 0 99;price 1 0;row a 1;", "a:0(1)");
    }

    private static void rule1() {
        Checks.says("RULE 1: the ways are such that there are as few words as can be.");
        reportIs("pack 1 4;" + GREEDY, "a:5(20,1,1,1)3(9,9,9,9,9,9,9)8(20000)");
        reportIs("pack 1 4;price 0 99;price 8 0;row a 1 1;", "a:0(1,1)");
        reportIs("pack 1 4;row a;", "a:");
        NineWays x = Checks.of("pack 1 4;row a;fill a 60 268435455;row b;fill b 60 1;row c;fill c 56 1;");
        Checks.due("60 wide numbers", x.row(0, 1), 60);
        Checks.due("60 narrow numbers", x.row(1, 1), 3);
        Checks.due("56 narrow numbers", x.row(2, 1), 2);
    }

    private static void rule2() {
        String others = "price 3 9;price 4 9;price 5 9;price 6 9;price 7 9;";
        Checks.says("RULE 2: the ways are such that the sum of their PRICES is the least, then that there are as few words as can be.");
        reportIs("pack 2 4;" + others + "price 2 1;row a 5 5;", "a:2(5,5)");
        reportIs("pack 2 4;" + others + "price 2 2;row a 5 5;", "a:2(5,5)");
        reportIs("pack 2 4;" + others + "price 2 3;row a 5 5;", "a:8(5)8(5)");
        reportIs("pack 2 4;" + others + "price 8 0;price 2 0;row a 5 5;", "a:2(5,5)");
        reportIs("pack 2 4;price 0 0;price 1 0;price 2 0;price 3 0;price 4 0;price 5 0;price 6 0;price 7 0;price 8 0;row a 1 9000 1 20000;",
            "a:7(1,9000)8(1)8(20000)");
        reportIs("pack 2 4;" + GREEDY, "a:5(20,1,1,1)3(9,9,9,9,9,9,9)8(20000)");
        // sixty words for 1 each are cheaper than twenty for 4, and dearer than thirty for 1
        NineWays x = Checks.of("pack 2 4;price 6 4;price 7 2;row a;fill a 60 300;row b;fill b 60 268435455;");
        Checks.due("as cheap, and fewer", x.row(0, 1), 30);
        x.setPrice(7, 3);
        Checks.due("many cheap words", x.row(0, 1), 60);
        Checks.due("their prices", x.row(0, 2), 60);
        x.setPrice(8, 99);
        Checks.due("the dearest words", x.row(1, 2), 60 * 99);
        Checks.due("few words", x.row(0, 1), 20);
        x.setPrice(8, 0);
        Checks.due("words for nothing", x.row(1, 2), 0);
    }

    private static void asGood() {
        Checks.says("If several rows of ways are as good by RULE 1 or 2, it is the one with the lower way at the first word at which they differ.");
        reportIs("pack 1 4;row a 5;", "a:2(5)");
        reportIs("pack 2 4;row a 5;", "a:2(5)");
        reportIs("pack 1 4;row a 5 300 5 300;", "a:6(5,300,5)6(300)");
        reportIs("pack 2 4;row a 5 300 5 300;", "a:6(5,300,5)6(300)");
        reportIs("pack 2 4;price 2 7;price 3 0;price 4 0;row a 5 5;", "a:3(5,5)");
        // 4 and 5 numbers by the ways 5 and 4 are two words, too
        reportIs("pack 1 4;row a" + times(9, 20) + ";", "a:4(20,20,20,20,20)4(20,20,20,20)");
        // they differ at the second word: 4 and 2 numbers by way 5 are as few words
        reportIs("pack 1 4;row a 20000 20 20 20 20 20 100;", "a:8(20000)4(20,20,20,20,20)5(100)");
    }

    // ---- 3. entries and reading

    private static void entries() {
        Checks.says("SKIP is 1 to 9.");
        NineWays x = Checks.of("pack 0 1;row a;fill a 60 268435455;row b;");
        Checks.due("9", x.setSkip(9), 1);
        Checks.due("1", x.setSkip(1), 9);
        Checks.badArgument("0", () -> x.setSkip(0));
        Checks.badArgument("10", () -> x.setSkip(10));
        Checks.due("by a script", Checks.run(x, "skip 9;skip 1;skip 0;"), 2);
        Checks.due("by a script, above", Checks.run(x, "skip 9;skip 10;"), 1);
        fault(2, "pack 0 ", "0;");
        fault(2, "pack 0 ", "10;");
        fine("pack 0 9;");

        Checks.says("The entry e of a row, from 0, is for the word e * SKIP, if there is one: it tells START of this word, and the sum of all numbers ahead of it.");
        for (int skip = 1; skip <= 9; skip++) {
            x.setSkip(skip);
            int entries = (59 / skip) + 1;
            Checks.due("entries by " + skip, x.row(0, 3), entries);
            Checks.due("the first by " + skip, x.entryStart(0, 0), 0);
            Checks.due("nothing is ahead of it by " + skip, x.entrySum(0, 0), 0);
            Checks.due("the last by " + skip, x.entryStart(0, entries - 1), (entries - 1) * skip);
            Checks.due("sum of the last by " + skip, x.entrySum(0, entries - 1), (entries - 1) * skip * 268435455L);
            Checks.due("behind the last by " + skip, x.entryStart(0, entries), -1);
            Checks.due("no entry -1 by " + skip, x.entrySum(0, -1), -1);
            Checks.due("without words by " + skip, x.row(1, 3), 0);
            Checks.due("none without words by " + skip, x.entryStart(1, 0), -1);
        }
        NineWays y = Checks.of("pack 0 4;row a;fill a 4 268435455;");
        Checks.due("SKIP words", y.row(0, 3), 1);
        Checks.due("SKIP words, the second entry", y.entryStart(0, 1), -1);
        y.append(0, 1);
        Checks.due("one word more", y.row(0, 3), 2);
        Checks.due("one word more, the second entry", y.entryStart(0, 1), 4);
    }

    private static final String PAIRS = "pack 0 2;row a" + times(10, 9000) + ";row b;row c;fill c 20 20000;";

    private static int readWords(NineWays x, Checks.Call call) {
        int before = x.account(3);
        call.answer();
        return x.account(3) - before;
    }

    private static void reading() {
        Checks.says("from the last entry whose START is at most i, each word from that of the entry to the one that holds the number is read.");
        NineWays x = Checks.of(PAIRS);
        // five words of two numbers; entries at START 0, 4 and 8
        int[] reads = {1, 1, 2, 2, 1, 1, 2, 2, 1, 1};
        for (int k = 0; k < 10; k++) {
            int i = k;
            Checks.due("number " + i, readWords(x, () -> x.read(0, i)), reads[i]);
        }
        x.setSkip(9);
        Checks.due("the last of 20 words", readWords(x, () -> x.read(2, 19)), 2);
        Checks.due("just ahead of an entry", readWords(x, () -> x.read(2, 17)), 9);
        Checks.due("just at an entry", readWords(x, () -> x.read(2, 18)), 1);
        x.setSkip(1);
        Checks.due("an entry for each word", readWords(x, () -> x.read(2, 19)), 1);
    }

    private static void sumsAhead() {
        NineWays x = Checks.of(PAIRS);
        Checks.says("The sum ahead of an index i (0 to the numbers of the row): the last entry whose START is at most i tells the sum ahead of it; from its word on each word of which START is less than i is read, and its numbers (with indexes below i) are added.");
        int[] reads = {0, 1, 1, 2, 0, 1, 1, 2, 0, 1, 1};
        for (int k = 0; k <= 10; k++) {
            int i = k;
            Checks.due("reads ahead of " + i, readWords(x, () -> x.sum(0, 0, i)), reads[i]);
            Checks.due("sum ahead of " + i, x.sum(0, 0, i), 9000L * i);
            Checks.due("reads for both of " + i, readWords(x, () -> x.sum(0, i, i)), 2 * reads[i]);
        }
        Checks.badArgument("beyond the numbers", () -> x.sum(0, 0, 11));
        x.setSkip(5);
        Checks.due("the numbers of the row, one entry", readWords(x, () -> x.sum(0, 0, 10)), 5);
        // a row of 20 words: at 20 the last entry is that of word 15
        Checks.due("the numbers of a row behind its last entry", readWords(x, () -> x.sum(2, 0, 20)), 5);
        Checks.due("as far as an entry", readWords(x, () -> x.sum(2, 0, 15)), 0);

        Checks.says("Without words nothing is read.");
        Checks.due("reads", readWords(x, () -> x.sum(1, 0, 0)), 0);
        Checks.due("sum", x.sum(1, 0, 0), 0);
        Checks.due("first", readWords(x, () -> x.first(1, 0)), 0);
        Checks.due("many", readWords(x, () -> x.many(1, 0)), 0);
    }

    private static void looking() {
        Checks.says("word by word from the first one, those whose way can hold it are read, others are passed over without reading.");
        for (int way = 0; way < 9; way++) {
            NineWays x = Checks.of("pack 0 4;row a" + times(COUNT[way], WIDEST[way]) + " 268435455;");
            int wide = WIDEST[way];
            Checks.due("the widest of way " + way, readWords(x, () -> x.many(0, wide)), 2);
            Checks.due("one more than way " + way + " can hold", readWords(x, () -> x.many(0, wide + 1)), way < 8 ? 1 : 0);
            Checks.due("0, way " + way, readWords(x, () -> x.many(0, 0)), 2);
        }
    }

    // ---- 4. text

    private static void tokens() {
        Checks.says("It is read from a buffer of at most 600 bytes.");
        String blank = " ".repeat(600 - "pack 0 4;row a 7;".length());
        reportIs("pack 0 4;" + blank + "row a 7;", "a:2(7)");
        fault(1, "pack 0 4;" + blank + "row a 77", "");
        NineWays x = new NineWays();
        Checks.load(x, " ".repeat(600));
        Checks.badState("more than 600", () -> x.feed(0, 0, 0, 0, 0));

        Checks.says("Spaces (byte 32) and line feeds (byte 10) may stand before, between and behind tokens.");
        fine(" \n pack \n 0 \n 4 \n ; \n row \n a \n 1 \n ; \n ");
        scriptFine(" \n repeat \n 2 \n ( \n skip \n 1 \n ; \n ) \n ; \n ");
        for (char other : new char[] {0, 1, 9, 11, 12, 13, 31, 33, 127, 128, 133, 160, 255}) {
            fault(1, "", other + "pack 0 4;");
            fault(1, "pack 0 4;row a", other + "1;");
            fault(1, "pack 0 4;", "" + other);
        }

        Checks.says("A word is a maximal run of letters a to z, with at most 8 letters; a NAME is any word.");
        fine("pack 0 4;row abcdefgh;row azazazaz;fill azazazaz 1 1;");
        fault(1, "pack 0 4;row ", "abcdefghi;");
        fault(1, "pack 0 4;row abcdefgh;fill ", "abcdefghi 1 1;");
        fault(1, "pack 0 4;row ", "`;");
        fault(1, "pack 0 4;row ", "{;");
        fault(1, "pack 0 4;row a", "B;");
        fine("pack 0 4;row row;row pack;row price;row fill;fill fill 1 1;");

        Checks.says("A number N is a maximal run of digits, with at most 9 digits.");
        fine("pack 000000000 000000009;row a 000000001 268435455;");
        fault(1, "pack ", "0000000000 4;");
        fault(1, "pack 0 4;row a 268435455 ", "1234567890;");
        fault(1, "pack 0 4;row a ", "/;");
        fault(1, "pack 0 4;row a ", ":;");
        fault(1, "pack 0 4;row a 1", "-2;");

        Checks.says("The other tokens are the single characters ; ( and ).");
        for (String sign : new String[] {"'", "*", ",", ".", "[", "]", "=", "\"", "_"}) {
            fault(1, "pack 0 4", sign);
            scriptFault(1, "skip 4", sign);
        }
        fault(1, "pack 0 4;row a ", "(1);");
        fault(1, "pack 0 4;row a 1", ");");

        Checks.says("A word and a number side by side need nothing between them.");
        fine("pack0 4;row a5;price0 1;fill a1 2;");
        scriptFine("skip4;rule0;repeat2(new a;);add a5;");
        fault(1, "pack 0 4;row a5", "b;");
        fault(1, "pack 0 4", "row a;");
    }

    private static void grammar() {
        Checks.says("system = \"pack\" N N \";\" { statement \";\" }");
        fine("pack 0 4;");
        fine("pack 0 4;row a;");
        fine("pack 0 4;row a;price 1 1;fill a 1 1;row b;fill b 1 1;price 2 1;");
        fault(1, "", "");
        fault(1, "", ";");
        fault(1, "", "row a;");
        fault(1, "pack 0 4", "");
        fault(1, "pack 0 4;", "pack 0 4;");
        fault(1, "pack 0 4;row a", "");
        fault(1, "pack 0 4;row a;", ";");

        Checks.says("statement = \"row\" NAME { N } | \"price\" N N | \"fill\" NAME N N");
        fine("pack 0 4;row a;row b 1;row c 1 2;");
        fault(1, "pack 0 4;row", ";");
        fault(1, "pack 0 4;row ", "1 a;");
        fault(1, "pack 0 4;row a ", "row b;");
        fault(1, "pack 0 4;row a;price 1", ";");
        fault(1, "pack 0 4;row a;price 1 1 ", "1;");
        fault(1, "pack 0 4;row a;price ", "a 1;");
        fault(1, "pack 0 4;row a;fill a 1", ";");
        fault(1, "pack 0 4;row a;fill a 1 1 ", "1;");
        fault(1, "pack 0 4;row a;fill ", "1 1;");
        fault(1, "pack 0 4;", "rows a;");
        fault(1, "pack 0 4;", "ro w a;");

        Checks.says("script = { command \";\" }");
        scriptFine("");
        scriptFine("skip 1;");
        scriptFine("skip 1;skip 2;");
        scriptFault(1, "skip 1", "");
        scriptFault(1, "", ";");
        scriptFault(1, "skip 1;", ";");

        Checks.says("\"new\" NAME | \"add\" NAME N | \"put\" NAME N N | \"insert\" NAME N N | \"remove\" NAME N | \"join\" NAME NAME | \"rule\" N | \"skip\" N | \"price\" N N | \"repeat\" N \"(\" script \")\"");
        scriptFine("new a;add a 1;put a 0 1;insert a 0 1;remove a 0;join a a;rule 0;skip 1;price 0 1;repeat 1();repeat 1(new b;new c;);");
        String[] commands = {"new a", "add a 1", "put a 0 1", "insert a 0 1", "remove a 0", "join a a", "rule 0", "skip 1", "price 0 1", "repeat 1()"};
        for (String command : commands) {
            scriptFault(1, command, "");
            scriptFault(1, command + " ", "b;");
            scriptFault(1, command + " ", "7;");
            scriptFault(1, command, ");");
            int last = Math.max(command.lastIndexOf(' '), command.indexOf('('));
            scriptFault(1, command.substring(0, last), ";");
        }
    }

    private static void statements() {
        Checks.says("\"pack\" tells RULE (0 to 2) and SKIP (1 to 9).");
        for (int rule = 0; rule <= 2; rule++) {
            Checks.due("RULE " + rule, Checks.of("pack " + rule + " 4;").setting(1), rule);
        }
        fault(2, "pack ", "3 4;");
        for (int skip = 1; skip <= 9; skip++) {
            Checks.due("SKIP " + skip, Checks.of("pack 0 " + skip + ";").setting(2), skip);
        }
        fault(2, "pack 0 ", "0;");
        fault(2, "pack 0 ", "10;");

        Checks.says("\"row\" tells the next row, its name and numbers.");
        NineWays x = Checks.of("pack 0 4;row c 7 8;row a;row b 9;");
        Checks.due("the first", Checks.report(x, 0), "c:3(7,8)\n");
        Checks.due("no numbers", Checks.report(x, 1), "a:\n");
        Checks.due("the last", Checks.report(x, 2), "b:3(9)\n");

        Checks.says("\"price\" tells a way and its PRICE.");
        NineWays y = Checks.of("pack 0 4;price 0 99;price 8 0;");
        Checks.due("the first way", y.way(0, 2), 99);
        Checks.due("the last way", y.way(8, 2), 0);
        Checks.due("one that is not told", y.way(7, 2), 1);
        fault(2, "pack 0 4;price ", "9 1;");
        fault(2, "pack 0 4;price 8 ", "100;");

        Checks.says("\"fill\" names a row, tells how many (1 to 60) and a number: so many of it come behind the numbers of the row.");
        reportIs("pack 0 4;row a 9;row b;fill a 2 7;", "a:3(9,7,7)");
        reportIs("pack 0 4;row a;fill a 1 7;fill a 1 8;", "a:3(7,8)");
        Checks.due("60", Checks.of("pack 0 4;row a;fill a 60 268435455;").row(0, 0), 60);
        fault(2, "pack 0 4;row a;fill a ", "0 1;");
        fault(2, "pack 0 4;row a;fill a ", "61 1;");
        fault(2, "pack 0 4;row a;fill a 1 ", "268435456;");
    }

    private static void positions() {
        Checks.says("Reading stops at the first token with an error, from left to right.");
        fault(2, "pack ", "3 10;row;");
        fault(4, "pack 0 4;fill ", "x 61 !");
        fault(1, "pack 0 4;", "!row a;row a;");
        scriptFault(2, "repeat ", "0 (skip;)");

        Checks.says("The position of an error is the index of the first byte of the token, or the length of the text if it ends too early.");
        fault(1, "", "");
        fault(1, "  \n ", "");
        fault(1, "pack", "");
        fault(1, "pack 0 4 \n", "");
        fault(1, "pack 0 4;row a 5", "");
        fault(2, "pack 0 4;row a  ", "300000000  ;");
        fault(3, "pack 0 4;row abc;row  ", "abc  ;");
        scriptFault(1, "repeat 2 (skip 1;", "");
        scriptFault(1, "add a 1", "");

        Checks.says("If several codes apply to the token, the lowest one is reported");
        fault(1, "pack 0 4;row a" + times(60, 1) + " ", "1234567890;");
        fault(1, "pack 0 4;row a" + times(60, 1) + " ", "b;");
        fault(2, "pack 0 4;row a" + times(60, 1) + " ", "268435456;");
        fault(2, "pack 0 4;row a 1;fill a ", "61 1;");
        fault(1, "pack 0 4;row a;row ", "aaaaaaaaa;");
        fault(1, "pack 0 4;fill ", "aaaaaaaaa 1 1;");
        scriptFault(3, "skip 1;".repeat(28) + "repeat 2(repeat 2(", "repeat 2();););");
        scriptFault(1, "skip 1;".repeat(30), "skips 1;");
    }

    private static void systemCodes() {
        Checks.says("1: a token or byte that the grammar does not allow, or the text ends too early; a word or number that is too long.");
        String[][] wrongs = {{"", "row a;"}, {"pack ", ";"}, {"pack 0", ";"}, {"pack 0 4 ", "5;"}, {"pack 0 4;", ";"}, {"pack 0 4;", "1;"},
            {"pack 0 4;", "pack 0 4;"}, {"pack 0 4;", "new a;"}, {"pack 0 4;row ", "1;"}, {"pack 0 4;row a 1 ", "b;"}, {"pack 0 4;price ", "a 1;"},
            {"pack 0 4;price 1", ";"}, {"pack 0 4;price 1 1 ", "1;"}, {"pack 0 4;row a;fill ", "1 1 1;"}, {"pack 0 4;row a;fill a 1", ";"},
            {"pack 0 4;row a;fill a 1 1 ", "1;"}, {"pack 0 4;row a;fill a ", "a 1;"}, {"pack 0 4;row a;fill a 1 ", "a;"}};
        for (String[] wrong : wrongs) {
            fault(1, wrong[0], wrong[1]);
        }
        String whole = "pack 0 4;row a 1;price 1 1;fill a 1 1;";
        for (int length = 0; length < whole.length(); length++) {
            boolean ends = length > 0 && whole.charAt(length - 1) == ';';
            String text = whole.substring(0, length);
            Checks.due("\"" + text + "\"", Checks.systemError(text), ends ? "0 at -1" : lettersBehind(text) ? "1 at " + wordStart(text) : "1 at " + length);
        }

        Checks.says("2: a number that is out of its range.");
        fault(2, "pack ", "999999999 4;");
        fault(2, "pack 0 4;row a 0 ", "999999999;");
        fault(2, "pack 0 4;price ", "999999999 1;");
        fault(2, "pack 0 4;price 0 ", "999999999;");

        Checks.says("3: the NAME of a \"row\" that another row has; the way of a \"price\" that was told before.");
        fault(3, "pack 0 4;row a;row b;row ", "b;");
        fine("pack 0 4;row a;row aa;row b;");
        fault(3, "pack 0 4;price 0 1;price ", "0 1;");
        fault(3, "pack 0 4;price 8 1;row a;price 7 1;price ", "8 100;");
        fine("pack 0 4;price 0 1;price 8 1;price 1 1;");

        Checks.says("4: the NAME of a \"fill\" that no row has.");
        fault(4, "pack 0 4;fill ", "a 1 1;");
        fault(4, "pack 0 4;row a;fill ", "aa 1 1;row aa;");

        Checks.says("5: the first word of a 5th row; a 61st number of a \"row\"; how many of a \"fill\", if the row would have more than 60.");
        fault(5, "pack 0 4;row a;row b;row c;row d;", "row a;");
        fault(5, "pack 0 4;row a;row b;row c;row d;", "row");
        fine("pack 0 4;row a;row b;row c;row d;fill d 1 1;price 1 1;");
        fault(5, "pack 0 4;row a" + times(60, 0) + " ", "0 0;");
        fine("pack 0 4;row a" + times(60, 0) + ";");
        fault(5, "pack 0 4;row a 1 1;fill a ", "59 300000000;");
        fine("pack 0 4;row a 1 1;fill a 58 1;");
        fault(5, "pack 0 4;row a;fill a 60 1;fill a ", "1 1;");
    }

    // A text that ends within "pack", "row", "price" or "fill" has a wrong word there.
    private static boolean lettersBehind(String text) {
        String word = text.substring(wordStart(text));
        return !word.isEmpty() && !java.util.List.of("pack", "row", "price", "fill", "a").contains(word);
    }

    private static int wordStart(String text) {
        int start = text.length();
        while (start > 0 && Character.isLetter(text.charAt(start - 1))) {
            start--;
        }
        return start;
    }

    // ---- 5. scripts

    private static void scriptTokens() {
        Checks.says("The tokens are those of a text.");
        scriptFine("new abcdefgh;add abcdefgh 000000001;");
        scriptFault(1, "new ", "abcdefghi;");
        scriptFault(1, "add a ", "0000000001;");
        scriptFault(1, "", "\tskip 1;");
        scriptFine("");
        scriptFine(" \n");

        Checks.says("a NAME, but that of \"new\", is that of a row that there is when the command is done.");
        NineWays x = Checks.of("pack 0 4;row a;");
        Checks.due("a row that the script adds", Checks.run(x, "new b;add b 1;join a b;"), 3);
        Checks.due("a row that there is not yet", Checks.run(x, "add c 1;new c;"), 0);
        Checks.due("and so none was added", x.setting(0), 2);
        for (String command : new String[] {"add c 1;", "put c 0 1;", "insert c 0 1;", "remove c 0;", "join c a;", "join a c;"}) {
            Checks.due(command, Checks.run(x, "skip 1;" + command + "skip 2;"), 1);
        }
        Checks.due("these are no refusals", x.account(1), 0);

        Checks.says("Numbers N are 0 to 999999999, of \"repeat\" 1 to 20");
        for (String command : new String[] {"add a ", "put a 0 ", "put a ", "insert a 0 ", "insert a ", "remove a ", "rule ", "skip ", "price 0 ", "price "}) {
            String more = command.matches("(put|insert) a |price ") ? " 0;" : ";";
            scriptFine(command + "0" + more);
            scriptFine(command + "999999999" + more);
            scriptFault(1, command, "1000000000" + more);
        }
        scriptFine("repeat 1();");
        scriptFine("repeat 20();");
        scriptFault(2, "repeat ", "0();");
        scriptFault(2, "repeat ", "21();");
        scriptFault(2, "repeat 2(repeat ", "999999999(););");

        Checks.says("\"repeat\" does the commands in brackets several times.");
        NineWays y = Checks.of("pack 0 4;row a;row b;");
        Checks.due("once", Checks.run(y, "repeat 1(add a 1;add a 2;);"), 2);
        Checks.due("twenty times", Checks.run(y, "repeat 20(add b 3;);"), 20);
        Checks.due("two times three", Checks.run(y, "repeat 2(add a 3;repeat 3(add a 4;););"), 8);
        Checks.due("nothing", Checks.run(y, "repeat 20();"), 0);
        Checks.due("row a", Checks.report(y, 0), "a:2(1,2,3,4,4,4,3,4,4)2(4)\n");
        Checks.due("row b", y.row(1, 0), 20);
    }

    private interface Change {
        long answer(NineWays x);
    }

    /** A command does what the method does, or ends the script where the method throws or is refused. */
    private static void same(String command, Change method) {
        NineWays x = Checks.of("pack 0 4;row a 1 2;row b 3;row c;fill c 60 4;");
        NineWays y = Checks.of("pack 0 4;row a 1 2;row b 3;row c;fill c 60 4;");
        boolean fine = Checks.outcome(() -> method.answer(x)).equals("answers") && x.refusal() == 0;
        Checks.due(command + " is done", Checks.run(y, command + ";"), fine ? 1 : 0);
        Checks.due(command + " does", Checks.all(y), Checks.all(x));
        for (int what = 0; what < 4; what++) {
            Checks.due(command + ", account " + what, y.account(what), x.account(what));
        }
        Checks.due(command + ", refusal", y.refusal(), x.refusal());
    }

    private static void scriptCommands() {
        Checks.says("The commands are as the methods add() (with the NAME in place of the buffer), append(), put(), insert(), remove(), join(), setRule(), setSkip() and setPrice(), with NAMEs in place of numbers of rows");
        same("new d", x -> Checks.added(x, "d"));
        same("new a", x -> Checks.added(x, "a"));
        same("add a 20000", x -> x.append(0, 20000));
        same("add a 268435456", x -> x.append(0, MOST + 1));
        same("add c 1", x -> x.append(2, 1));
        same("put a 1 20000", x -> x.put(0, 1, 20000));
        same("put a 2 20000", x -> x.put(0, 2, 20000));
        same("put a 1 268435456", x -> x.put(0, 1, MOST + 1));
        same("insert a 2 20000", x -> x.insert(0, 2, 20000));
        same("insert a 0 20000", x -> x.insert(0, 0, 20000));
        same("insert a 3 20000", x -> x.insert(0, 3, 20000));
        same("insert a 0 268435456", x -> x.insert(0, 0, MOST + 1));
        same("insert c 60 1", x -> x.insert(2, 60, 1));
        same("insert c 61 1", x -> x.insert(2, 61, 1));
        same("remove a 0", x -> x.remove(0, 0));
        same("remove a 2", x -> x.remove(0, 2));
        same("join a b", x -> x.join(0, 1));
        same("join b a", x -> x.join(1, 0));
        same("join a a", x -> x.join(0, 0));
        same("join a c", x -> x.join(0, 2));
        same("rule 2", x -> x.setRule(2));
        same("rule 3", x -> x.setRule(3));
        same("skip 9", x -> x.setSkip(9));
        same("skip 0", x -> x.setSkip(0));
        same("skip 10", x -> x.setSkip(10));
        same("price 8 99", x -> x.setPrice(8, 99));
        same("price 9 1", x -> x.setPrice(9, 1));
        same("price 0 100", x -> x.setPrice(0, 100));
        NineWays x = Checks.of("pack 0 4;row a;row b;row c;row d;");
        Checks.due("a fifth row", Checks.run(x, "new a;"), 0);
        Checks.due("its lowest reason", x.refusal(), 101);
    }

    private static void scriptCodes() {
        Checks.says("Errors: 1 and 2 as above");
        String[][] wrongs = {{"", ";"}, {"", "1;"}, {"", "row a;"}, {"", "pack 0 4;"}, {"", "(skip 1;);"}, {"", ");"}, {"new", ";"}, {"new ", "1;"},
            {"new a ", "1;"}, {"add a", ";"}, {"add ", "1;"}, {"add a 1 ", "1;"}, {"put a 1", ";"}, {"insert a 1", ";"}, {"remove a", ";"},
            {"remove a 1 ", "1;"}, {"join a", ";"}, {"join a ", "1;"}, {"rule", ";"}, {"rule ", "a;"}, {"skip", ";"}, {"price 1", ";"},
            {"price ", "a 1;"}, {"repeat ", "(skip 1;);"}, {"repeat 2", ";"}, {"repeat 2", "skip 1;"}, {"repeat 2(", ";);"},
            {"repeat 2(skip 1", ");"}, {"repeat 2(skip 1;", "(skip 1;););"}, {"repeat 2(skip 1;)", "skip 1;"}, {"repeat 2(skip 1;)", ");"},
            {"skip 1;", ")"}, {"repeat 2(skip 1;);", ");"}};
        for (String[] wrong : wrongs) {
            scriptFault(1, wrong[0], wrong[1]);
        }

        Checks.says("3: the first word of a \"repeat\" within two others");
        scriptFault(3, "repeat 2(repeat 2(", "repeat 2();););");
        scriptFault(3, "repeat 2(repeat 2();repeat 2(skip 1;", "repeat 0");
        scriptFine("repeat 2(repeat 2();repeat 2();repeat 2(););repeat 2(repeat 2(););");

        Checks.says("5: the first word of a 31st command of the text (\"repeat\" is one, too)");
        scriptFine("skip 1;".repeat(30));
        scriptFault(5, "skip 1;".repeat(30), "skip 1;");
        scriptFault(5, "skip 1;".repeat(30), "repeat 0");
        scriptFine("repeat 1();".repeat(30));
        scriptFault(5, "repeat 1();".repeat(30), "skip 1;");
        scriptFine("repeat 1(repeat 1(" + "skip 1;".repeat(28) + "););");
        scriptFault(5, "repeat 1(repeat 1(" + "skip 1;".repeat(28), "skip 1;););");
        scriptFault(5, "repeat 1(" + "skip 1;".repeat(29) + ");", "skip 1;");
    }

    private static void ends(String script, int done, int refusals, String report) {
        NineWays x = Checks.of("pack 0 4;row a 1;row b;fill b 60 1;row c;");
        Checks.due("\"" + script + "\" does", Checks.run(x, script), done);
        Checks.due("\"" + script + "\" is refused", x.account(1), refusals);
        Checks.due("\"" + script + "\" acts", x.account(0), done);
        Checks.due("\"" + script + "\" leaves", Checks.report(x, 0), report + "\n");
    }

    private static void scriptEnds() {
        Checks.says("A script ends as a whole, without counting it (what was done before stays), at a command whose NAME there is not, or whose method would throw an exception (these are no refusals), or is refused.");
        ends("add a 1;add d 1;add a 1;", 1, 0, "a:0(1,1)");
        ends("add a 1;join a d;add a 1;", 1, 0, "a:0(1,1)");
        ends("add a 1;add a 268435456;add a 1;", 1, 0, "a:0(1,1)");
        ends("add a 1;put a 2 1;add a 1;", 1, 0, "a:0(1,1)");
        ends("add a 1;put a 0 268435456;add a 1;", 1, 0, "a:0(1,1)");
        ends("add a 1;insert a 3 1;add a 1;", 1, 0, "a:0(1,1)");
        ends("add a 1;insert a 2 268435456;add a 1;", 1, 0, "a:0(1,1)");
        ends("add a 1;remove a 2;add a 1;", 1, 0, "a:0(1,1)");
        ends("add a 1;remove c 0;add a 1;", 1, 0, "a:0(1,1)");
        ends("add a 1;rule 3;add a 1;", 1, 0, "a:0(1,1)");
        ends("add a 1;skip 0;add a 1;", 1, 0, "a:0(1,1)");
        ends("add a 1;skip 10;add a 1;", 1, 0, "a:0(1,1)");
        ends("add a 1;price 9 1;add a 1;", 1, 0, "a:0(1,1)");
        ends("add a 1;price 0 100;add a 1;", 1, 0, "a:0(1,1)");
        ends("add a 1;add b 1;add a 1;", 1, 1, "a:0(1,1)");
        ends("add a 1;insert b 0 1;add a 1;", 1, 1, "a:0(1,1)");
        ends("add a 1;join b a;add a 1;", 1, 1, "a:0(1,1)");
        ends("add a 1;join a b;add a 1;", 1, 1, "a:0(1,1)");
        ends("add a 1;new a;add a 1;", 1, 1, "a:0(1,1)");
        ends("new d;new e;add a 1;", 1, 1, "a:0(1)");
        ends("repeat 2(repeat 2(add a 1;remove c 0;);add a 1;);add a 1;", 1, 0, "a:0(1,1)");
        ends("repeat 2(repeat 2(add a 1;add c 1;new d;);add a 1;);add a 1;", 5, 1, "a:0(1,1,1)");
        ends("repeat 20(repeat 20(add b 1;););add a 1;", 0, 1, "a:0(1)");

        Checks.says("It also ends early when 40 commands (\"repeat\" not counted) were done (what is behind the 40th is not done).");
        ends("repeat 20(repeat 2(skip 1;););", 40, 0, "a:0(1)");
        ends("repeat 13(repeat 3(skip 1;););add a 1;", 40, 0, "a:0(1,1)");
        ends("repeat 20(repeat 2(skip 1;););add a 1;", 40, 0, "a:0(1)");
        ends("repeat 13(repeat 3(skip 1;););add a 1;add a 1;", 40, 0, "a:0(1,1)");
        ends("repeat 20(repeat 2(skip 1;););add b 1;", 40, 0, "a:0(1)");
        ends("repeat 20(repeat 20(skip 1;add a 1;remove a 1;););", 40, 0, "a:0(1)");
        ends("repeat 20(repeat 20(add a 1;remove a 1;skip 1;););", 40, 0, "a:0(1,1)");
    }
}
