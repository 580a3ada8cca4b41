/** Promises 1 to 50: each sentence that names a boundary, looked at from both sides of it. */
public final class PromisesTest {
    private static final int MOST = 268435455;
    private static final int LEAST_INT = Integer.MIN_VALUE;
    private static final int MOST_INT = Integer.MAX_VALUE;
    private static final String[] NONE_IS_TOLD = {"", " ", "\n", "a ", " a", "a\n", "A", "1", "a1", "1a", "a;", "abcdefghi", "a b", "`", "{", "a\0", "\u00e1"};

    public static void main(String[] args) {
        promise1();
        promises2and3();
        promise4();
        promise5();
        promises6and7();
        promises8and9();
        promises10and11();
        promises12to14();
        promises15and16();
        promises17to19();
        promises20and21();
        promises22and23();
        promises24and25();
        promises26and27();
        promises28and29();
        promise30();
        promise31();
        promise32();
        promises33and34();
        promise35();
        promises36to40();
        promises41to43();
        promises44and45();
        promise46();
        promises47and48();
        promises49and50();
        Checks.end("PromisesTest");
    }

    private static String times(int times, int number) {
        return (" " + number).repeat(times);
    }

    private static void otherWhats(String name, int most, java.util.function.IntFunction<Checks.Call> call) {
        for (int what = 0; what <= most; what++) {
            Checks.due(name + ", what " + what, Checks.outcome(call.apply(what)), "answers");
        }
        for (int what : new int[] {-1, most + 1, most + 2, 8, 16, 32, 64, LEAST_INT, MOST_INT}) {
            Checks.badArgument(name + ", what " + what, call.apply(what));
        }
    }

    private static void promise1() {
        Checks.says("Creates rows as by the text \"pack 0 4;\", with an empty buffer, all accounts 0.");
        NineWays x = new NineWays();
        NineWays y = Checks.of("pack 0 4;");
        Checks.due("all", Checks.all(x), Checks.all(y));
        Checks.due("rows", x.setting(0), 0);
        Checks.badArgument("the buffer is empty", () -> x.truncate(1));
        Checks.due("nothing is found", x.find(), -1);
        for (int what = 0; what < 4; what++) {
            Checks.due("account " + what, x.account(what), 0);
        }
        Checks.due("nothing to undo", x.undo(), -1);
        for (int what = 3; what < 6; what++) {
            Checks.due("setting " + what, x.setting(what), 0);
        }
        Checks.due("two objects are nothing to each other", Checks.added(x, "a") + y.setting(0), 0);
    }

    private static void promises2and3() {
        Checks.says("Appends 20 bytes to the buffer: the four bytes of each parameter, the most significant byte first.");
        NineWays x = new NineWays();
        x.feed(0x7061636b, 0x20322037, 0x3b726f77, 0x20617a20, 0x39313b20);
        Checks.due("they are a text", x.readText(), 1);
        Checks.due("it is read", Checks.all(x), "2 7 1 1 1 1 1 1 1 1 1 az:5(91)\n");
        x.feed(-1, LEAST_INT, MOST_INT, 0, 1);
        Checks.badArgument("bytes above 127 are no letters", x::readText);
        Checks.due("the first of them", x.errorPosition(), 0);

        Checks.says("Returns the new number of bytes in the buffer.");
        NineWays y = new NineWays();
        for (int k = 1; k <= 30; k++) {
            Checks.due("feed " + k, y.feed(k, k, k, k, k), 20 * k);
        }

        Checks.says("Throws `IllegalStateException` if it would exceed 600");
        Checks.badState("620", () -> y.feed(0, 0, 0, 0, 0));
        Checks.due("600 stay", y.truncate(600), 600);
        y.truncate(581);
        Checks.badState("601", () -> y.feed(0, 0, 0, 0, 0));
        Checks.due("581 stay", y.truncate(581), 581);
        y.truncate(580);
        Checks.due("600", y.feed(0, 0, 0, 0, 0), 600);

        Checks.says("Throws `IllegalArgumentException` if it is negative or greater than the present one");
        Checks.badArgument("601", () -> y.truncate(601));
        Checks.badArgument("-1", () -> y.truncate(-1));
        Checks.badArgument("the least", () -> y.truncate(LEAST_INT));
        Checks.badArgument("the greatest", () -> y.truncate(MOST_INT));
        Checks.due("the present one", y.truncate(600), 600);
        Checks.due("one less", y.truncate(599), 599);
        Checks.badArgument("one more", () -> y.truncate(600));
        Checks.due("0", y.truncate(0), 0);
        Checks.due("0 again", y.truncate(0), 0);
        Checks.badArgument("1 of an empty one", () -> y.truncate(1));
        Checks.due("what was cut off is gone", y.feed(0x61000000, 0, 0, 0, 0), 20);
    }

    private static void promise4() {
        Checks.says("Reads the buffer as a system, which replaces everything but accounts, the latest refusal, what is saved and the report, and empties the buffer, also on an error.");
        NineWays x = Checks.of("pack 2 7;price 4 9;row a 1;row b 2;");
        x.save();
        x.append(0, 9000);
        x.add();
        x.read(0, 0);
        x.report(1);
        Checks.load(x, "oops");
        Checks.outcome(x::runScript);
        Checks.load(x, "pack 0 4;row zz 3;");
        Checks.due("rows", x.readText(), 1);
        Checks.badArgument("the buffer is empty", () -> x.truncate(1));
        Checks.due("the error is replaced", x.errorCode() + " at " + x.errorPosition(), "0 at -1");
        Checks.due("acts stay", x.account(0), 1);
        Checks.due("refusals stay", x.account(1), 1);
        Checks.due("words that were read stay", x.account(3), 1);
        Checks.due("the latest refusal stays", x.refusal(), 102);
        Checks.due("the report stays", x.reportByte(4) + x.reportByte(0), '2' + 'b');
        Checks.due("RULE, SKIP, prices, rows", Checks.all(x), "0 4 1 1 1 1 1 1 1 1 1 zz:1(3)\n");
        Checks.due("what is saved stays", x.restore(), 2);
        Checks.load(x, "pack");
        Checks.badArgument("an error", x::readText);
        Checks.badArgument("the buffer is empty on an error", () -> x.truncate(1));
        Checks.badArgument("so it is no text", x::readText);
        Checks.due("but one that ends too early", x.errorPosition(), 0);

        Checks.says("Returns the number of rows.");
        for (int rows = 0; rows <= 4; rows++) {
            StringBuilder text = new StringBuilder("pack 0 4;");
            for (int row = 0; row < rows; row++) {
                text.append("row ").append((char) ('a' + row)).append(" 1;");
            }
            Checks.load(x, text.toString());
            Checks.due("rows", x.readText(), rows);
        }

        Checks.says("Throws `IllegalArgumentException` if the text has an error; only the buffer and the error change then");
        String[] wrongs = {"pack 3 4;", "pack 1 1;row a;row a;", "pack 1 1;price 0 9;price 0 8;", "pack 1 1;row a 1;fill b 1 1;", "pack 1 1;row a 1;fill a 60 1;"};
        for (String wrong : wrongs) {
            NineWays y = Checks.of("pack 2 7;price 4 9;row a 1;row b 2;");
            y.append(1, 3);
            String before = Checks.all(y);
            Checks.load(y, wrong);
            Checks.badArgument(wrong, y::readText);
            Checks.due("all behind " + wrong, Checks.all(y), before);
            Checks.due("undo behind " + wrong, y.undo(), 0);
        }
    }

    private static void promise5() {
        Checks.says("Reads the buffer as a script, empties it, also on an error, and does the script.");
        NineWays x = Checks.of("pack 0 4;row a;");
        Checks.due("done", Checks.run(x, "add a 1;"), 1);
        Checks.badArgument("the buffer is empty", () -> x.truncate(1));
        Checks.due("nothing is done again", x.runScript(), 0);
        Checks.load(x, "add a 1;add");
        Checks.badArgument("an error", x::runScript);
        Checks.badArgument("the buffer is empty on an error", () -> x.truncate(1));
        Checks.due("nothing is done of it", x.row(0, 0), 1);

        Checks.says("Returns the number of commands that were done, \"repeat\" not counted.");
        Checks.due("none", Checks.run(x, ""), 0);
        Checks.due("none, of a repeat", Checks.run(x, "repeat 20();"), 0);
        Checks.due("one", Checks.run(x, "repeat 1(skip 1;);"), 1);
        Checks.due("forty", Checks.run(x, "repeat 20(repeat 20(skip 1;););"), 40);
        Checks.due("those ahead of one that can't be", Checks.run(x, "skip 1;skip 2;skip 0;skip 3;"), 2);

        Checks.says("Throws `IllegalArgumentException` if the text has an error; only the buffer and the error change then");
        x.setSkip(4);
        String before = Checks.all(x);
        Checks.load(x, "add a 5;rule 2;skip 9;price 0 9;new b;oops;");
        Checks.badArgument("an error behind", x::runScript);
        Checks.due("all", Checks.all(x), before);
        Checks.due("acts", x.account(0), 45);
        Checks.due("the error", x.errorPosition(), 38);
        Checks.due("undo", x.undo(), 5);
    }

    private static void promises6and7() {
        Checks.says("Returns the code of the error of the latest readText() or runScript(); 0 if it had no error, or if there was none.");
        NineWays x = new NineWays();
        Checks.due("there was none", x.errorCode(), 0);
        String[][] wrongs = {{"pack", "4"}, {"pack 0 0;", "7"}, {"pack 0 4;row a;row a;", "19"}, {"pack 0 4;fill a 1 1;", "14"}, {"pack 0 4;row a 1;fill a 60 1;", "24"}};
        for (int code = 1; code <= 5; code++) {
            Checks.load(x, wrongs[code - 1][0]);
            Checks.outcome(x::readText);
            Checks.due("code " + code, x.errorCode(), code);
            x.feed(0, 0, 0, 0, 0);
            x.truncate(0);
            x.find();
            Checks.due("it stays " + code, x.errorCode(), code);
        }
        Checks.run(x, "add x 1;");
        Checks.due("a script without an error, which ends early", x.errorCode(), 0);
        Checks.load(x, "skip 1");
        Checks.outcome(x::runScript);
        Checks.due("a script with an error", x.errorCode(), 1);
        Checks.load(x, "pack 0 4;");
        x.readText();
        Checks.due("a text without an error", x.errorCode(), 0);

        Checks.says("Returns the position of that error; NONE if there was none.");
        NineWays y = new NineWays();
        Checks.due("there was none", y.errorPosition(), -1);
        for (String[] wrong : wrongs) {
            Checks.load(y, wrong[0]);
            Checks.outcome(y::readText);
            Checks.due(wrong[0], y.errorPosition(), Integer.parseInt(wrong[1]));
        }
        Checks.load(y, "");
        Checks.outcome(y::readText);
        Checks.due("the first position", y.errorPosition(), 0);
        Checks.load(y, "pack 0 4;" + " ".repeat(591));
        y.readText();
        Checks.due("no error", y.errorPosition(), -1);
        Checks.load(y, " ".repeat(600));
        Checks.outcome(y::readText);
        Checks.due("the last position", y.errorPosition(), 600);
        Checks.run(y, "");
        Checks.due("a script without an error", y.errorPosition(), -1);
    }

    private static void promises8and9() {
        NineWays x = Checks.of("pack 2 7;price 5 3;row az;fill az 60 268435455;row bc;fill bc 60 100;row abcdefgh;row z 1;");
        Checks.says("0 rows, 1 RULE, 2 SKIP, 3 numbers of all rows, 4 words of all rows, 5 PRICES of all words together.");
        // az has 60 words by way 8, bc 20 by way 6 (15 by way 5 would be dearer), z one by way 0
        int[] wants = {4, 2, 7, 121, 60 + 20 + 1, 60 + 20 + 1};
        int[] nothing = {0, 0, 4, 0, 0, 0};
        for (int what = 0; what < 6; what++) {
            Checks.due("what " + what, x.setting(what), wants[what]);
            Checks.due("of a new one, what " + what, new NineWays().setting(what), nothing[what]);
        }
        Checks.says("@return that number. @throws IllegalArgumentException for any other what");
        otherWhats("setting", 5, what -> () -> x.setting(what));

        Checks.says("Returns letter i, from 0, of the name of a row: 1 for a to 26 for z; 0 if it has none such (i: any int).");
        Checks.due("a", x.letter(0, 0), 1);
        Checks.due("z", x.letter(0, 1), 26);
        Checks.due("behind the last", x.letter(0, 2), 0);
        for (int i = 0; i < 8; i++) {
            Checks.due("letter " + i + " of eight", x.letter(2, i), i + 1);
        }
        for (int i : new int[] {-1, 8, 9, 12, 13, 63, 64, LEAST_INT, MOST_INT, 1 << 30}) {
            Checks.due("no letter " + i, x.letter(2, i), 0);
        }
    }

    private static void promises10and11() {
        Checks.says("0 COUNT, 1 WIDTH, 2 PRICE, 3 words of all rows that have it.");
        NineWays x = Checks.of("pack 0 4;price 8 99;price 0 0;row a 20000 20001 1;row b 20000;row c;");
        int[][] wants = {{28, 1, 0, 1}, {1, 28, 99, 3}, {14, 2, 1, 0}};
        for (int what = 0; what < 4; what++) {
            Checks.due("way 0, what " + what, x.way(0, what), wants[0][what]);
            Checks.due("way 8, what " + what, x.way(8, what), wants[1][what]);
            Checks.due("way 1, what " + what, x.way(1, what), wants[2][what]);
        }
        Checks.says("@return that number. @throws IllegalArgumentException for any other what");
        otherWhats("way", 3, what -> () -> x.way(8, what));

        Checks.says("0 numbers, 1 words, 2 PRICES of its words together, 3 entries, 4 bits of words that hold nothing (28 for each word, less WIDTH for each number), 5 bits that numbers do not need (WIDTH less the bits of the number, which has 1 at least, for each), 6 its ways, as a set (bit k for the way k).");
        // d is 7(8192,0)6(256,0,0)5(64,0,0,0): 14 bits, 9 and 7 are needed, and 1 for each 0
        NineWays y = Checks.of("pack 0 1;price 8 99;row a 0;row b;fill b 60 268435455;row c;row d 8192 0 256 0 0 64 0 0 0;");
        int[][] rows = {
            {1, 1, 1, 1, 27, 0, 1},
            {60, 60, 60 * 99, 60, 0, 0, 256},
            {0, 0, 0, 0, 0, 0, 0},
            {9, 3, 3, 3, 0 + 1 + 0, (14 - 14) + (14 - 1) + (9 - 9) + 8 + 8 + (7 - 7) + 6 + 6 + 6, 128 + 64 + 32},
        };
        for (int row = 0; row < 4; row++) {
            for (int what = 0; what < 7; what++) {
                Checks.due("row " + row + ", what " + what, y.row(row, what), rows[row][what]);
            }
        }
        y.setSkip(9);
        Checks.due("entries of 60 words by 9", y.row(1, 3), 7);
        Checks.due("entries of one word by 9", y.row(0, 3), 1);
        Checks.due("entries without words by 9", y.row(2, 3), 0);
        Checks.says("@return that number. @throws IllegalArgumentException for any other what");
        otherWhats("row", 6, what -> () -> y.row(2, what));
    }

    private static void promises12to14() {
        Checks.says("Returns a word of a row as an int.");
        NineWays x = Checks.of("pack 0 4;row a 268435455 1 20000;row b;");
        Checks.due("the first", x.word(0, 0), -1879048193);
        Checks.due("way 8 with little", x.word(0, 1), LEAST_INT + 1);
        Checks.due("the last", x.word(0, 2), LEAST_INT + 20000);
        Checks.badIndex("behind the last", () -> x.word(0, 3));
        Checks.badIndex("without words", () -> x.word(1, 0));

        Checks.says("0 its way, 1 how many numbers it holds, 2 its START, 3 bits of it that hold nothing.");
        NineWays y = Checks.of("pack 0 4;row a" + times(9, 7) + times(5, 31) + times(3, 511) + " 1;");
        int[][] words = {{2, 9, 0, 1}, {4, 5, 9, 3}, {6, 3, 14, 1}, {0, 1, 17, 27}};
        for (int word = 0; word < 4; word++) {
            for (int what = 0; what < 4; what++) {
                Checks.due("word " + word + ", what " + what, y.wordPart(0, word, what), words[word][what]);
            }
        }
        Checks.says("@return that number. @throws IllegalArgumentException for any other what");
        otherWhats("wordPart", 3, what -> () -> y.wordPart(0, 3, what));

        Checks.says("Returns the sum of the numbers of a word.");
        long[] sums = {63, 155, 1533, 1};
        for (int word = 0; word < 4; word++) {
            Checks.due("word " + word, y.wordSum(0, word), sums[word]);
        }
        Checks.due("the greatest", x.wordSum(0, 0), 268435455L);
        Checks.due("the least", Checks.of("pack 0 4;row a 0 0;").wordSum(0, 0), 0);
    }

    private static void promises15and16() {
        NineWays x = Checks.of("pack 0 9;row a;fill a 60 268435455;row b;");
        int[] none = {-1, 7, 8, LEAST_INT, MOST_INT, 1 << 29, 1 << 30, 1 << 31, 477218589, 954437177};
        Checks.says("Returns START that an entry of a row tells; NONE if there is no such entry (entry: any int).");
        for (int entry = 0; entry < 7; entry++) {
            Checks.due("entry " + entry, x.entryStart(0, entry), 9 * entry);
        }
        for (int entry : none) {
            Checks.due("no entry " + entry, x.entryStart(0, entry), -1);
            Checks.due("without words, entry " + entry, x.entryStart(1, entry), -1);
        }
        Checks.due("without words", x.entryStart(1, 0), -1);

        Checks.says("Returns the sum that an entry of a row tells; NONE if there is no such entry (entry: any int).");
        for (int entry = 0; entry < 7; entry++) {
            Checks.due("entry " + entry, x.entrySum(0, entry), 9L * entry * 268435455L);
        }
        for (int entry : none) {
            Checks.due("no entry " + entry, x.entrySum(0, entry), -1);
            Checks.due("without words, entry " + entry, x.entrySum(1, entry), -1);
        }
        Checks.due("without words", x.entrySum(1, 0), -1);
    }

    private static void promises17to19() {
        Checks.says("0 it has this one, 1 it cannot be taken there, 2 it could be taken, but another row of ways is better by the rule (by RULE 0: a lower way can be taken).");
        int[][] wants = {{1, 1, 1, 1, 0, 2, 2, 2, 2}, {1, 1, 1, 1, 2, 0, 2, 2, 2}};
        for (int rule = 0; rule < 3; rule++) {
            NineWays x = Checks.of("pack " + rule + " 4;row a 20 1 1 1 9 9 9 9 9 9 9 20000;");
            for (int way = 0; way < 9; way++) {
                Checks.due("RULE " + rule + ", way " + way, x.why(0, 0, way), wants[rule == 0 ? 0 : 1][way]);
                Checks.due("the last word by RULE " + rule + ", way " + way, x.why(0, x.row(0, 1) - 1, way), way == 8 ? 0 : 1);
            }
        }
        NineWays two = Checks.of("pack 2 4;price 8 0;row a 1 1;");
        for (int way = 0; way < 9; way++) {
            Checks.due("a dearer one, way " + way, two.why(0, 0, way), way == 8 ? 0 : 2);
        }

        Checks.says("Returns how many numbers of all rows are otherwise in the words than they were written (0).");
        NineWays x = Checks.of("pack 1 4;row a;fill a 60 268435455;row bcdefghi;fill bcdefghi 60 1;row b 0 16383 511 127 31 15 7 3 1;row c;");
        Checks.due("none", x.gap(), 0);
        x.setRule(2);
        x.put(0, 30, 0);
        Checks.due("none behind changes", x.gap(), 0);
        Checks.due("none without rows", new NineWays().gap(), 0);

        Checks.says("Returns the row whose name is the whole buffer (as it is then); NONE if there is none such.");
        String[] names = {"a", "bcdefghi", "b", "c"};
        for (int row = 0; row < 4; row++) {
            Checks.load(x, names[row]);
            Checks.due(names[row], x.find(), row);
        }
        for (String name : NONE_IS_TOLD) {
            Checks.load(x, name);
            Checks.due("\"" + name + "\"", x.find(), -1);
        }
        for (String name : new String[] {"d", "aa", "bcdefgh", "bc", "bcdefghia"}) {
            Checks.load(x, name);
            Checks.due("\"" + name + "\"", x.find(), -1);
        }
        Checks.load(x, "bcdefghi");
        x.truncate(1);
        Checks.due("as it is then", x.find(), 2);
        x.truncate(0);
        Checks.due("an empty one", x.find(), -1);
    }

    private static void promises20and21() {
        NineWays x = Checks.of("pack 0 4;row a 0 268435455 5;row b;row c;fill c 60 268435455;");
        Checks.says("Reads a number.");
        int[] numbers = {0, MOST, 5};
        for (int i = 0; i < 3; i++) {
            Checks.due("number " + i, x.read(0, i), numbers[i]);
        }
        Checks.due("the 60th", x.read(2, 59), MOST);

        Checks.says("Returns the sum of the numbers with indexes from one (0 at least) to another one less 1 (the sum ahead of the latter less that ahead of the former; words are read for both).");
        Checks.due("none", x.sum(0, 0, 0), 0);
        Checks.due("none at the end", x.sum(0, 3, 3), 0);
        Checks.due("the first", x.sum(0, 0, 1), 0);
        Checks.due("the second", x.sum(0, 1, 2), MOST);
        Checks.due("all", x.sum(0, 0, 3), 268435460L);
        Checks.due("without numbers", x.sum(1, 0, 0), 0);
        Checks.due("more than an int", x.sum(2, 0, 60), 16106127300L);
        int before = x.account(3);
        x.sum(2, 60, 60);
        Checks.due("words for both", x.account(3) - before, 8);

        Checks.says("if from is below 0, above to, or to is above the numbers of the row.");
        Checks.badArgument("from below 0", () -> x.sum(0, -1, 0));
        Checks.badArgument("both below 0", () -> x.sum(0, -1, -1));
        Checks.badArgument("from above to", () -> x.sum(0, 1, 0));
        Checks.badArgument("to above", () -> x.sum(0, 3, 4));
        Checks.badArgument("both above", () -> x.sum(0, 4, 4));
        Checks.badArgument("without numbers", () -> x.sum(1, 0, 1));
        Checks.badArgument("60 is all", () -> x.sum(2, 60, 61));
        Checks.badArgument("far", () -> x.sum(2, LEAST_INT, MOST_INT));
        Checks.badArgument("far above", () -> x.sum(2, 0, MOST_INT));
    }

    private static void promises22and23() {
        int[] beyond = {268435456, 536870911, MOST_INT, -1, -5, LEAST_INT};
        NineWays x = Checks.of("pack 0 4;row a 5 20000 5 0 5;row b;row c 268435455 0;row d;fill d 60 7;");
        Checks.says("the lowest index at which it is; NONE if it is not in the row (value: any int; one that no way can hold is not, and reads no words)");
        Checks.due("the first of three", x.first(0, 5), 0);
        Checks.due("the last", x.first(0, 0), 3);
        Checks.due("the widest", x.first(2, MOST), 0);
        Checks.due("the least", x.first(2, 0), 1);
        Checks.due("not there", x.first(0, 6), -1);
        Checks.due("without numbers", x.first(1, 5), -1);
        Checks.due("60 of one", x.first(3, 7), 0);
        int before = x.account(3);
        for (int value : beyond) {
            Checks.due("no way can hold " + value, x.first(2, value), -1);
        }
        Checks.due("reads", x.account(3), before);
        Checks.says("Looks for a number, until it is found.");
        x.first(3, 7);
        Checks.due("until it is found", x.account(3), before + 1);
        x.first(2, 0);
        Checks.due("as far as the last word", x.account(3), before + 3);

        Checks.says("Looks for a number in the whole row.");
        Checks.due("three", x.many(0, 5), 3);
        Checks.due("one", x.many(0, 0), 1);
        Checks.due("the widest", x.many(2, MOST), 1);
        Checks.due("none", x.many(0, 6), 0);
        Checks.due("without numbers", x.many(1, 5), 0);
        Checks.due("60", x.many(3, 7), 60);
        Checks.says("how often it is there, likewise");
        before = x.account(3);
        for (int value : beyond) {
            Checks.due("no way can hold " + value, x.many(2, value), 0);
        }
        Checks.due("reads none", x.account(3), before);
        x.many(3, 7);
        Checks.due("reads all", x.account(3), before + 7);
        x.many(2, 0);
        Checks.due("reads the words that can hold it", x.account(3), before + 9);
        x.many(2, 2);
        Checks.due("passes over those that can't", x.account(3), before + 10);
    }

    private static void promises24and25() {
        Checks.says("Returns how many words read() of a number would read now.");
        NineWays x = Checks.of("pack 0 9;row a;fill a 60 268435455;row b 5;row c;");
        Checks.due("the first", x.readsFor(0, 0), 1);
        Checks.due("the ninth", x.readsFor(0, 8), 9);
        Checks.due("the tenth", x.readsFor(0, 9), 1);
        Checks.due("the last", x.readsFor(0, 59), 6);
        Checks.due("the only one", x.readsFor(1, 0), 1);
        x.setSkip(1);
        Checks.due("with an entry for each word", x.readsFor(0, 59), 1);
        Checks.due("nothing is read", x.account(3), 0);
        Checks.badIndex("without numbers", () -> x.readsFor(2, 0));

        Checks.says("Returns the greatest number of a row; NONE without any.");
        Checks.due("of sixty", x.greatest(0), MOST);
        Checks.due("of one", x.greatest(1), 5);
        Checks.due("without any", x.greatest(2), -1);
        Checks.due("0", Checks.of("pack 0 4;row a 0 0;").greatest(0), 0);
        x.put(0, 59, 0);
        x.remove(1, 0);
        Checks.due("without any then", x.greatest(1), -1);
        Checks.due("the last one is the greatest", Checks.of("pack 0 4;row a 1 2 3;").greatest(0), 3);
    }

    private static void promises26and27() {
        Checks.says("Returns the bits that all numbers need (1 at least each) as a float, divided by 32 for each word as a float; 1.0f without words.");
        Checks.due("without rows", new NineWays().filled(), 1.0f);
        Checks.due("without numbers", Checks.of("pack 0 4;row a;row b;").filled(), 1.0f);
        Checks.due("0 needs 1 bit", Checks.of("pack 0 4;row a 0;").filled(), 1f / 32f);
        Checks.due("1 needs 1 bit", Checks.of("pack 0 4;row a 1;").filled(), 1f / 32f);
        Checks.due("2 needs 2 bits", Checks.of("pack 0 4;row a 2;").filled(), 2f / 32f);
        Checks.due("3 needs 2 bits", Checks.of("pack 0 4;row a 3;").filled(), 2f / 32f);
        Checks.due("4 needs 3 bits", Checks.of("pack 0 4;row a 4;").filled(), 3f / 32f);
        Checks.due("the widest needs 28 bits", Checks.of("pack 0 4;row a 268435455;").filled(), 28f / 32f);
        Checks.due("134217728 needs 28 bits", Checks.of("pack 0 4;row a 134217728;").filled(), 28f / 32f);
        Checks.due("134217727 needs 27 bits", Checks.of("pack 0 4;row a 134217727;").filled(), 27f / 32f);
        NineWays x = Checks.of("pack 0 4;row a;fill a 60 268435455;row b;fill b 60 268435455;row c;fill c 60 268435455;row d 0;");
        Checks.due("all rows", x.filled(), (180 * 28 + 1) / (32f * 181f));
        x.remove(3, 0);
        Checks.due("a row without words", x.filled(), 0.875f);

        Checks.says("Returns numbers of a row as a double, divided by its words as a double; 0.0 without words.");
        Checks.due("without words", x.meanHeld(3), 0.0);
        Checks.due("60 of 60", x.meanHeld(0), 1.0);
        Checks.due("28", Checks.of("pack 0 4;row a;fill a 28 1;").meanHeld(0), 28.0);
        Checks.due("29 of 2", Checks.of("pack 0 4;row a;fill a 29 1;").meanHeld(0), 14.5);
        Checks.due("4 of 3", Checks.of("pack 0 4;row a 1 20000 1 1;").meanHeld(0), 4.0 / 3.0);
    }

    private static void promises28and29() {
        NineWays x = Checks.of("pack 0 4;price 4 40;price 8 7;row a 20 1 1 1 9 9 9 9 9 9 9 20000;row b;row c;fill c 60 20000;");
        int[] words = {4, 3, 3};
        int[] prices = {40 + 40 + 7 + 7, 1 + 1 + 7, 1 + 1 + 7};
        Checks.says("Returns the words that a row would have by another rule.");
        for (int rule = 0; rule < 3; rule++) {
            Checks.due("RULE " + rule, x.wordsBy(0, rule), words[rule]);
            Checks.due("without numbers, RULE " + rule, x.wordsBy(1, rule), 0);
            Checks.due("60 words, RULE " + rule, x.wordsBy(2, rule), 60);
        }
        Checks.says("0 to 2. @throws IllegalArgumentException if rule is out of range.");
        for (int rule : new int[] {-1, 3, 4, LEAST_INT, MOST_INT}) {
            Checks.badArgument("words, RULE " + rule, () -> x.wordsBy(0, rule));
            Checks.badArgument("prices, RULE " + rule, () -> x.priceBy(0, rule));
            Checks.badArgument("words without numbers, RULE " + rule, () -> x.wordsBy(1, rule));
            Checks.badArgument("prices without numbers, RULE " + rule, () -> x.priceBy(1, rule));
        }
        Checks.says("Returns the PRICES of its words together by another rule, likewise.");
        for (int rule = 0; rule < 3; rule++) {
            Checks.due("RULE " + rule, x.priceBy(0, rule), prices[rule]);
            Checks.due("without numbers, RULE " + rule, x.priceBy(1, rule), 0);
            Checks.due("60 words, RULE " + rule, x.priceBy(2, rule), 420);
        }
        x.setPrice(8, 99);
        Checks.due("60 of the dearest", x.priceBy(2, 2), 5940);
        x.setPrice(8, 0);
        Checks.due("60 for nothing", x.priceBy(2, 0), 0);
        Checks.due("more words for nothing", x.wordsBy(0, 2), 12);
    }

    private static void promise30() {
        Checks.says("Returns the words that a row would have if a number was another one.");
        NineWays x = Checks.of("pack 0 4;row a" + times(28, 1) + ";row b 5;row c;fill c 60 268435455;");
        Checks.due("the first", x.wordsIf(0, 0, 2), 2);
        Checks.due("the last", x.wordsIf(0, 27, 2), 2);
        Checks.due("the same", x.wordsIf(0, 27, 1), 1);
        Checks.due("less", x.wordsIf(0, 27, 0), 1);
        Checks.due("the only one", x.wordsIf(1, 0, MOST), 1);
        Checks.due("the last of 60", x.wordsIf(2, 59, 0), 60);
        Checks.due("the last but one of 60", x.wordsIf(2, 58, 0), 60);
        Checks.due("RULE 2", x.setRule(2) + x.wordsIf(0, 0, MOST), 2);
        x.setPrice(8, 0);
        Checks.due("RULE 2, its prices", x.wordsIf(0, 0, 0), 28);
        Checks.says("0 to 268435455. @throws IllegalArgumentException if value is out of range.");
        Checks.due("the least", Checks.outcome(() -> x.wordsIf(1, 0, 0)), "answers");
        Checks.due("the greatest", Checks.outcome(() -> x.wordsIf(1, 0, MOST)), "answers");
        for (int value : new int[] {-1, MOST + 1, LEAST_INT, MOST_INT}) {
            Checks.badArgument("" + value, () -> x.wordsIf(1, 0, value));
        }
    }

    private static void bestRemoveIs(String text, int want) {
        NineWays x = Checks.of(text);
        Checks.due(text, x.bestRemove(0), want);
    }

    private static void promise31() {
        Checks.says("Returns the least index of a number without which the row would have the fewest words; NONE without numbers.");
        bestRemoveIs("pack 0 4;row a;", -1);
        bestRemoveIs("pack 0 4;row a 5;", 0);
        bestRemoveIs("pack 0 4;row a 1 1;", 0);
        bestRemoveIs("pack 0 4;row a 1 20000;", 0);
        bestRemoveIs("pack 0 4;row a 1 1 20000;", 2);
        bestRemoveIs("pack 0 4;row a 20000 1 1;", 0);
        bestRemoveIs("pack 0 4;row a 1 1 20000 1 1;", 2);
        bestRemoveIs("pack 0 4;row a 1 1 20000 20000 1;", 2);
        bestRemoveIs("pack 0 4;row a;fill a 60 268435455;", 0);
        bestRemoveIs("pack 0 4;row a;fill a 59 1;row b;", 0);
        bestRemoveIs("pack 0 4;row a" + times(28, 1) + " 2;", 28);
        bestRemoveIs("pack 0 4;row a" + times(57, 0) + ";", 0);
        // without the last one there are two words, without any other one three
        bestRemoveIs("pack 1 4;row a 20 1 1 1 9 9 9 9 9 9 9 20000;", 11);
    }

    private static void dearWayIs(String text, int want) {
        for (int rule = 0; rule < 3; rule++) {
            NineWays x = Checks.of("pack " + rule + " 4;" + text);
            Checks.due(text + " by RULE " + rule, x.dearWay(0), want);
        }
    }

    private static void promise32() {
        Checks.says("Returns the way with the lowest number whose PRICE would have to be another one (0 to 99) so that a row had fewer words by RULE 2 than it has by RULE 2 with the prices now, whatever RULE is; NONE if there is none.");
        dearWayIs("row a;", -1);
        dearWayIs("row a 5;price 8 0;", -1);
        dearWayIs("row a 20000 20000;price 8 0;", -1);
        dearWayIs("row a 5 5;", -1);
        // only a PRICE of 0 does
        dearWayIs("row a 5 5;price 8 0;", 2);
        dearWayIs("row a 9000 9000;price 8 0;", 7);
        dearWayIs("row a 9000 20000;price 8 0;", -1);
        // way 2 at 49 or more makes 300 and 5 by way 8 and way 2 as dear as one word for 99
        String dear = "price 3 99;price 4 99;price 5 99;price 6 99;price 7 99;";
        dearWayIs("row a 300 5;" + dear + "price 2 0;price 8 50;", 2);
        // three words, 8(9000)5(100,100,100,31)4(31), for 100; two, 7(9000,100)5(100,100,31,31), for 150: only 99 for way 8 does
        dearWayIs("row a 9000 100 100 100 31 31;price 4 0;price 5 51;price 6 99;price 7 99;price 8 49;", 8);
        // three words by way 6 for nothing, or two, 4(20,20,20,20,20)5(100,100,100,100), for 2
        dearWayIs("row a 20 20 20 20 20 100 100 100 100;price 6 0;", 6);
        // there are fewer words, but no single PRICE does: way 7 is for nothing, too
        dearWayIs("row a 20 20 20 20 20 100 100 100 100;price 6 0;price 7 0;", -1);
        // 5 and twice 7 are as dear as 4 and 6, for 198, once way 7 is for 99; no other way does
        dearWayIs("row a 15 15 15 15 15 100 100 500;price 4 99;price 5 0;price 6 99;price 7 1;price 8 99;", 7);
        // three words by way 6 for nothing; way 4 for nothing, too, makes them two
        dearWayIs("row a 15 15 15 15 15 31 31 31 31;price 4 99;price 6 0;", 4);
        // three words by way 7 for nothing; way 3 for the last one would have to be less than that
        dearWayIs("row a 31 31 31 31 31 15;price 3 99;price 6 99;price 7 0;", 4);
        // as many words as by RULE 0, and one more than by RULE 1
        dearWayIs("row a 20 1 1 1 9 9 9 9 9 9 9 20000;price 5 9;", 5);
    }

    private static void promises33and34() {
        Checks.says("Returns the words that two rows would have as one row, the numbers of the other one behind");
        NineWays two = Checks.of("pack 0 4;row a 9000;row b 9000 20000;row c;");
        Checks.due("9000 9000 20000", two.wordsTogether(0, 1), 2);
        Checks.due("9000 20000 9000", two.wordsTogether(1, 0), 3);
        Checks.due("none behind", two.wordsTogether(1, 2), 2);
        Checks.due("none ahead", two.wordsTogether(2, 1), 2);

        Checks.says("(also with more than 60 numbers, also of one and the same row)");
        NineWays x = Checks.of("pack 0 4;row a;fill a 60 268435455;row b;fill b 60 1;row c 5;row d;");
        Checks.due("60 and 60", x.wordsTogether(0, 1), 60 + 3);
        Checks.due("twice 60", x.wordsTogether(0, 0), 120);
        Checks.due("twice 60 narrow ones", x.wordsTogether(1, 1), 5);
        Checks.due("60 and 1", x.wordsTogether(0, 2), 61);
        Checks.due("1 and 60", x.wordsTogether(2, 0), 61);
        Checks.due("60 and none", x.wordsTogether(0, 3), 60);
        Checks.due("none and 60", x.wordsTogether(3, 1), 3);
        Checks.due("twice none", x.wordsTogether(3, 3), 0);
        Checks.due("twice one", x.wordsTogether(2, 2), 1);
        for (int rule = 1; rule < 3; rule++) {
            x.setRule(rule);
            Checks.due("60 and 60 by RULE " + rule, x.wordsTogether(0, 1), 60 + 3);
            Checks.due("twice 60 by RULE " + rule, x.wordsTogether(0, 0), 120);
        }
        x.setPrice(8, 0);
        Checks.due("60 and 60 for nothing", x.wordsTogether(1, 0), 120);
        Checks.due("nothing is joined", x.setting(3), 121);

        Checks.says("Returns the SKIP, 1 to 9, with which all numbers of a row, each read once, would read the fewest words, the greatest one of several; NONE without numbers.");
        Checks.due("60 words", x.bestSkip(0), 1);
        Checks.due("three words", x.bestSkip(1), 1);
        Checks.due("one word", x.bestSkip(2), 9);
        Checks.due("without numbers", x.bestSkip(3), -1);
        x.setSkip(1);
        Checks.due("one word, whatever SKIP is", x.bestSkip(2), 9);
        Checks.due("two words", Checks.of("pack 0 9;row a 20000 1;").bestSkip(0), 1);
    }

    private static void promise35() {
        Checks.says("its name is the whole buffer, 1 to 8 letters a to z and nothing else, which is emptied if it is added.");
        for (String name : NONE_IS_TOLD) {
            NineWays x = new NineWays();
            Checks.due("\"" + name + "\"", Checks.added(x, name), -102);
            Checks.due("its bytes stay", x.truncate(name.length()), name.length());
            Checks.due("no row", x.setting(0), 0);
        }
        NineWays x = new NineWays();
        String[] names = {"a", "zzzzzzzz", "azazaza", "aa"};
        for (int row = 0; row < 4; row++) {
            Checks.due(names[row], Checks.added(x, names[row]), row);
            Checks.badArgument("it is emptied", () -> x.truncate(1));
            Checks.due("without numbers", x.row(row, 0), 0);
        }
        Checks.says("@return its number; refused for 101, 102");
        Checks.due("a fifth", Checks.added(x, "b"), -101);
        Checks.due("its byte stays", x.find() + x.truncate(1), 0);
        Checks.due("the names", Checks.all(x), "0 4 1 1 1 1 1 1 1 1 1 a:\n zzzzzzzz:\n azazaza:\n aa:\n");
        Checks.due("empty buffer", Checks.added(x, ""), -101);
        NineWays y = new NineWays();
        y.feed(0x61626364, 0x65666768, 0x69000000, 0, 0);
        y.truncate(8);
        Checks.due("eight letters of more", y.add(), 0);
        Checks.due("the last of them", y.letter(0, 7), 8);
    }

    private static void promises36to40() {
        NineWays x = Checks.of("pack 0 4;row a;row b;fill b 60 268435455;row c 1 2;");
        Checks.says("A number comes behind those of a row. @param value 0 to 268435455. @return the words of the row then; refused for 103. @throws IllegalArgumentException if value is out of range");
        Checks.due("the first, the greatest", x.append(0, MOST), 1);
        Checks.due("the least", x.append(0, 0), 2);
        for (int value : new int[] {-1, MOST + 1, LEAST_INT, MOST_INT}) {
            Checks.badArgument("" + value, () -> x.append(0, value));
            Checks.badArgument("" + value + " behind a full row", () -> x.append(1, value));
        }
        Checks.due("behind a full row", x.append(1, 0), -103);

        Checks.says("A number of a row becomes another one, likewise.");
        Checks.due("the least", x.put(0, 0, 0), 1);
        Checks.due("the greatest", x.put(0, 1, MOST), 2);
        Checks.due("the last of a full row", x.put(1, 59, 0), 60);
        Checks.badIndex("behind the last of a full row", () -> x.put(1, 60, 0));
        Checks.badIndex("behind the last", () -> x.put(0, 2, 0));
        for (int value : new int[] {-1, MOST + 1, LEAST_INT, MOST_INT}) {
            Checks.badArgument("" + value, () -> x.put(0, 0, value));
        }
        Checks.due("row a", Checks.report(x, 0), "a:8(0)8(268435455)\n");

        Checks.says("A number comes into a row ahead of index i (0 to its numbers; otherwise IndexOutOfBoundsException), likewise.");
        Checks.due("ahead of the first", x.insert(2, 0, 3), 1);
        Checks.due("behind the last", x.insert(2, 3, MOST), 2);
        Checks.due("ahead of the last", x.insert(2, 3, 0), 2);
        Checks.badIndex("beyond", () -> x.insert(2, 6, 0));
        Checks.badIndex("far beyond", () -> x.insert(2, MOST_INT, 0));
        Checks.badIndex("below", () -> x.insert(2, -1, 0));
        Checks.badIndex("far below", () -> x.insert(2, LEAST_INT, 0));
        for (int value : new int[] {-1, MOST + 1, LEAST_INT, MOST_INT}) {
            Checks.badArgument("" + value, () -> x.insert(2, 5, value));
            Checks.badArgument("" + value + " into a full row", () -> x.insert(1, 60, value));
        }
        Checks.due("into a full row", x.insert(1, 0, 0), -103);
        Checks.due("behind a full row", x.insert(1, 60, 0), -103);
        Checks.badIndex("beyond a full row", () -> x.insert(1, 61, 0));
        Checks.due("row c", Checks.report(x, 2), "c:5(3,1,2,0)8(268435455)\n");
        Checks.due("the first of none", Checks.of("pack 0 4;row a;").insert(0, 0, 5), 1);

        Checks.says("A number of a row goes.");
        Checks.due("the last", x.remove(2, 4), 1);
        Checks.due("the first", x.remove(2, 0), 1);
        Checks.due("one in between", x.remove(2, 1), 1);
        Checks.due("row c", Checks.report(x, 2), "c:0(1,0)\n");
        x.remove(2, 0);
        Checks.due("the only one", x.remove(2, 0), 0);
        Checks.badIndex("of none", () -> x.remove(2, 0));
        Checks.due("of a full row", x.remove(1, 0), 59);

        Checks.says("All numbers of another row come behind those of a row (and stay there).");
        Checks.due("none behind 59", x.join(1, 2), 59);
        Checks.due("two behind none", x.join(2, 0), 2);
        Checks.due("they stay there", x.row(0, 0), 2);
        Checks.due("two behind 59", x.join(1, 0), -103);
        x.remove(0, 0);
        Checks.due("one behind 59", x.join(1, 0), 60);
        Checks.due("one behind 60", x.join(1, 0), -103);
        Checks.says("refused for 103 (one and the same row: twice its numbers)");
        NineWays y = Checks.of("pack 0 4;row a;fill a 30 1;row b;fill b 31 1;row c;row d;fill d 60 1;");
        Checks.due("twice 30", y.join(0, 0), 3);
        Checks.due("twice 31", y.join(1, 1), -103);
        Checks.due("twice none", y.join(2, 2), 0);
        Checks.due("twice 60", y.join(3, 3), -103);
    }

    private static void promises41to43() {
        NineWays x = new NineWays();
        Checks.says("Sets RULE. @param rule 0 to 2. @return the one before.");
        Checks.due("2", x.setRule(2), 0);
        Checks.due("0", x.setRule(0), 2);
        Checks.due("1", x.setRule(1), 0);
        for (int rule : new int[] {-1, 3, LEAST_INT, MOST_INT}) {
            Checks.badArgument("" + rule, () -> x.setRule(rule));
        }
        Checks.due("it stays", x.setRule(1), 1);
        Checks.says("Sets SKIP. @param skip 1 to 9. @return the one before.");
        Checks.due("9", x.setSkip(9), 4);
        Checks.due("1", x.setSkip(1), 9);
        for (int skip : new int[] {-1, 0, 10, LEAST_INT, MOST_INT}) {
            Checks.badArgument("" + skip, () -> x.setSkip(skip));
        }
        Checks.due("it stays", x.setSkip(5), 1);
        Checks.says("Sets PRICE of a way. @param price 0 to 99. @return the one before. @throws IllegalArgumentException if price is out of range");
        for (int way = 0; way < 9; way++) {
            int k = way;
            Checks.due("99 of " + way, x.setPrice(way, 99), 1);
            Checks.due("0 of " + way, x.setPrice(way, 0), 99);
            for (int price : new int[] {-1, 100, LEAST_INT, MOST_INT}) {
                Checks.badArgument(price + " of " + way, () -> x.setPrice(k, price));
            }
            Checks.due("it stays for " + way, x.setPrice(way, way), 0);
        }
        for (int way : new int[] {-1, 9, LEAST_INT, MOST_INT}) {
            Checks.badIndex("way " + way, () -> x.setPrice(way, 1));
        }
        Checks.due("all", Checks.all(x), "1 5 0 1 2 3 4 5 6 7 8");
    }

    private static void promises44and45() {
        Checks.says("Returns the reason of the latest change that was refused (also in scripts): 101 to 103; 0 if none was.");
        NineWays x = Checks.of("pack 0 4;row a;fill a 60 1;");
        Checks.due("none was", x.refusal(), 0);
        Checks.outcome(() -> x.append(0, -1));
        Checks.run(x, "add b 1;");
        Checks.due("none of these was", x.refusal(), 0);
        x.append(0, 1);
        Checks.due("103", x.refusal(), 103);
        x.add();
        Checks.due("102", x.refusal(), 102);
        Checks.run(x, "join a a;");
        Checks.due("103 in a script", x.refusal(), 103);
        Checks.run(x, "new a;");
        Checks.due("102 in a script", x.refusal(), 102);
        Checks.run(x, "new b;new c;new d;new e;");
        Checks.due("101 in a script", x.refusal(), 101);
        x.append(1, 1);
        Checks.due("a change that is not refused", x.refusal(), 101);
        x.insert(0, 0, 1);
        Checks.due("103 by insert()", x.refusal(), 103);
        Checks.added(x, "f");
        Checks.due("101", x.refusal(), 101);

        Checks.says("0 acts, 1 refusals, 2 undone changes, 3 words that were read. @return the account. @throws IllegalArgumentException for any other what");
        otherWhats("account", 3, what -> () -> x.account(what));
        int[] wants = {4, 7, 0, 0};
        for (int what = 0; what < 4; what++) {
            Checks.due("account " + what, x.account(what), wants[what]);
        }
    }

    private static void promise46() {
        Checks.says("Undoes the latest call that can be undone.");
        NineWays latest = Checks.of("pack 0 4;row a 1;");
        latest.setSkip(1);
        latest.setSkip(2);
        latest.add();
        Checks.outcome(() -> latest.setSkip(10));
        latest.save();
        latest.undo();
        Checks.due("not the refused one, not the one that throws", latest.setting(2), 1);
        latest.undo();
        Checks.due("the one before", latest.setting(2), 4);

        Checks.says("the number of calls that can still be undone; NONE, and nothing changes, if there is none");
        NineWays x = Checks.of("pack 0 4;row a 1;");
        String before = Checks.all(x);
        Checks.due("none", x.undo(), -1);
        Checks.due("nothing changes", Checks.all(x) + x.account(2), before + 0);
        for (int k = 0; k < 8; k++) {
            x.put(0, 0, k);
        }
        for (int left = 5; left >= 0; left--) {
            Checks.due("left", x.undo(), left);
            Checks.due("the number", x.read(0, 0), left + 1);
        }
        before = Checks.all(x);
        Checks.due("none then", x.undo(), -1);
        Checks.due("none again", x.undo(), -1);
        Checks.due("nothing changes then", Checks.all(x) + x.account(2), before + 6);
        Checks.due("no undo of undo", x.read(0, 0), 1);
    }

    private static void promises47and48() {
        Checks.says("Writes the report of a row, in place of the one before");
        NineWays shorter = Checks.of("pack 0 4;row abcdefgh 1 2 3;row a;");
        Checks.due("the one before", shorter.report(0), 18);
        Checks.due("its last byte", shorter.reportByte(17), 10);
        Checks.due("a shorter one", shorter.report(1), 3);
        Checks.due("its last byte", shorter.reportByte(2), 10);
        Checks.badIndex("nothing is left of the one before", () -> shorter.reportByte(3));
        shorter.append(1, 1);
        Checks.due("a change does not change it", shorter.reportByte(2), 10);

        Checks.says("its name, a colon (byte 58), then for each word its way (a digit), and in brackets (bytes 40 and 41) its numbers, with a comma (byte 44) between two; then a line feed.");
        NineWays x = Checks.of("pack 0 4;row a 0 1;row abcdefgh;row c;fill c 60 268435455;row d 10 9 99 100 268435455 1000000 999999;");
        Checks.badIndex("no report yet", () -> x.reportByte(0));
        int[] bytes = {97, 58, 48, 40, 48, 44, 49, 41, 10};
        Checks.due("bytes", x.report(0), bytes.length);
        for (int i = 0; i < bytes.length; i++) {
            Checks.due("byte " + i, x.reportByte(i), bytes[i]);
        }
        Checks.due("without words", Checks.report(x, 1), "abcdefgh:\n");
        Checks.due("60 words", Checks.report(x, 2), "c:" + "8(268435455)".repeat(60) + "\n");
        Checks.due("its bytes", x.report(2), 723);
        NineWays longest = Checks.of("pack 0 4;row abcdefgh;fill abcdefgh 60 268435455;");
        Checks.due("the longest that there is", Checks.report(longest, 0), "abcdefgh:" + "8(268435455)".repeat(60) + "\n");
        Checks.due("its bytes", longest.report(0), 730);
        Checks.due("digits", Checks.report(x, 3), "d:5(10,9,99,100)8(268435455)8(1000000)8(999999)\n");

        Checks.says("Throws `IndexOutOfBoundsException` if there is no such byte, or there was no report");
        x.report(2);
        Checks.due("the first", x.reportByte(0), 'c');
        Checks.due("the last", x.reportByte(722), 10);
        for (int i : new int[] {-1, 723, 724, LEAST_INT, MOST_INT}) {
            Checks.badIndex("byte " + i, () -> x.reportByte(i));
        }
        x.report(1);
        Checks.due("the last of a shorter one", x.reportByte(9), 10);
        Checks.badIndex("behind a shorter one", () -> x.reportByte(10));
        Checks.badIndex("no such row", () -> x.report(4));
        Checks.due("the one before stays then", x.reportByte(9), 10);
        NineWays none = Checks.of("pack 0 4;row a;");
        Checks.badIndex("there was none", () -> none.reportByte(0));
    }

    private static void promises49and50() {
        Checks.says("Saves everything but the buffer, the error, accounts, the latest refusal, what can be undone and the report, in place of what was saved before.");
        NineWays x = Checks.of("pack 2 7;price 4 9;row a 1 9000;row b;");
        x.append(1, 5);
        x.report(1);
        String saved = Checks.all(x);
        Checks.due("numbers", x.save(), 3);
        x.setRule(1);
        x.setSkip(2);
        x.setPrice(4, 3);
        Checks.added(x, "c");
        x.read(0, 1);
        x.add();
        x.report(0);
        Checks.load(x, "oops");
        Checks.outcome(x::runScript);
        Checks.load(x, "b");
        Checks.due("restored", x.restore(), 3);
        Checks.due("the buffer stays", x.find() + x.truncate(1), 2);
        Checks.due("the error stays", x.errorCode() + " at " + x.errorPosition(), "1 at 0");
        int[] accounts = {5, 1, 0, 1};
        for (int what = 0; what < 4; what++) {
            Checks.due("account " + what + " stays", x.account(what), accounts[what]);
        }
        Checks.due("the latest refusal stays", x.refusal(), 102);
        Checks.due("what can be undone is forgotten", x.undo(), -1);
        Checks.due("the report stays", x.reportByte(0), 'a');
        Checks.due("everything else", Checks.all(x), saved);
        x.remove(0, 0);
        Checks.due("one less is saved", x.save(), 2);
        x.append(0, 1);
        Checks.due("in place of what was saved before", x.restore(), 2);

        Checks.says("Restores what was saved, which stays.");
        for (int k = 0; k < 3; k++) {
            x.append(0, 1);
            Checks.due("again", x.restore(), 2);
        }
        x.append(0, 1);
        Checks.load(x, "pack 0 4;");
        x.readText();
        Checks.due("behind another text", x.restore(), 2);
        NineWays empty = new NineWays();
        Checks.due("nothing but settings", empty.save(), 0);
        Checks.added(empty, "a");
        Checks.due("its numbers", empty.restore(), 0);
        Checks.due("its rows", empty.setting(0), 0);

        Checks.says("Throws `IllegalStateException` if nothing was saved");
        NineWays y = Checks.of("pack 0 4;row a 1;");
        Checks.badState("nothing was", y::restore);
        y.append(0, 1);
        Checks.badState("nothing was yet", y::restore);
        Checks.due("nothing changes", y.row(0, 0), 2);
        y.save();
        Checks.due("something was", y.restore(), 2);
    }
}
