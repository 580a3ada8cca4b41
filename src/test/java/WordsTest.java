/** Promises 8 to 19, the words by each rule, and the means. */
public final class WordsTest {
    public static void main(String[] args) {
        promise8();
        promise9();
        promise10();
        promise11();
        promises12to14();
        promises15and16();
        promise17();
        promises18and19();
        promises26and27();
        rules();
        Checks.end("WordsTest");
    }

    private static void promise8() {
        NineWays x = Checks.of("pack 2 7;row a 1 5 9;row b;row c 100 200;price 0 5;price 3 9;price 7 40;");
        // a: 1 by way 1, then 5 and 9 by way 4; c: both by way 6 (the price of 6 is 1)
        Checks.due("8 rows", x.setting(0), 3);
        Checks.due("8 rule", x.setting(1), 2);
        Checks.due("8 skip", x.setting(2), 7);
        Checks.due("8 numbers", x.setting(3), 5);
        Checks.due("8 words", x.setting(4), 2);
        Checks.due("8 prices", x.setting(5), 2);
        x.setRule(0);
        Checks.due("8 prices by rule 0", x.setting(5), 10);
        Checks.badArgument("8 above", () -> x.setting(6));
        Checks.badArgument("8 below", () -> x.setting(-1));
        Checks.badArgument("8 far", () -> x.setting(Integer.MAX_VALUE));
    }

    private static void promise9() {
        NineWays x = Checks.of("pack 0 4;row a;row azbycxdw;");
        int[] letters = {1, 26, 2, 25, 3, 24, 4, 23};
        for (int i = 0; i < 8; i++) {
            Checks.due("9 letter " + i, x.letter(1, i), letters[i]);
        }
        Checks.due("9 only", x.letter(0, 0), 1);
        Checks.due("9 behind a short name", x.letter(0, 1), 0);
        int[] none = {8, 9, 12, 64, -1, -8, Integer.MIN_VALUE, Integer.MAX_VALUE};
        for (int i : none) {
            Checks.due("9 no letter " + i, x.letter(1, i), 0);
        }
        Checks.badIndex("9 above", () -> x.letter(2, 0));
        Checks.badIndex("9 below", () -> x.letter(-1, 0));
    }

    private static void promise10() {
        NineWays x = Checks.of("pack 0 4;price 4 33;price 0 0;row a 1 1 9;row b 1 2;row c 300000 0;");
        int[] counts = {28, 14, 9, 7, 5, 4, 3, 2, 1};
        int[] widths = {1, 2, 3, 4, 5, 7, 9, 14, 28};
        int[] words = {1, 1, 0, 1, 0, 0, 0, 0, 1};
        for (int way = 0; way < 9; way++) {
            Checks.due("10 count " + way, x.way(way, 0), counts[way]);
            Checks.due("10 width " + way, x.way(way, 1), widths[way]);
            Checks.due("10 price " + way, x.way(way, 2), way == 4 ? 33 : way == 0 ? 0 : 1);
            Checks.due("10 words " + way, x.way(way, 3), words[way]);
        }
        Checks.badIndex("10 above", () -> x.way(9, 0));
        Checks.badIndex("10 below", () -> x.way(-1, 0));
        Checks.badIndex("10 both", () -> x.way(9, 4));
        Checks.badArgument("10 what above", () -> x.way(0, 4));
        Checks.badArgument("10 what below", () -> x.way(0, -1));
    }

    private static void promise11() {
        NineWays x = Checks.of("pack 0 2;row a 0 3 20000 16384;row b;price 1 7;price 8 90;");
        Checks.due("11 report", Checks.report(x, 0), "a:7(0,3)8(20000)8(16384)\n");
        int[] wants = {4, 3, 181, 2, 0, 14 - 1 + 14 - 2 + 28 - 15 + 28 - 15, 128 + 256};
        for (int what = 0; what < 7; what++) {
            Checks.due("11 what " + what, x.row(0, what), wants[what]);
            Checks.due("11 empty row, what " + what, x.row(1, what), 0);
        }
        Checks.run(x, "add b 1;add b 2;remove a 3;remove a 2;");
        int[] then = {2, 1, 7, 1, 24, 2 * 2 - 3, 2};
        for (int what = 0; what < 7; what++) {
            Checks.due("11 then " + what, x.row(0, what), what == 5 ? 1 : then[what]);
            Checks.due("11 row b, what " + what, x.row(1, what), then[what]);
        }
        NineWays y = Checks.of("pack 0 3;row a 268435455 0 0 0 0 0 0 0 0 0 0 0 0 0 0 0 0 0 0 0 0 0 0 0 0 0 0 0 0 0 0;");
        Checks.due("11 all bits are needed", y.row(0, 5), 0);
        Checks.due("11 ways", y.row(0, 6), 1 + 256);
        Checks.due("11 words", y.row(0, 1), 3);
        Checks.due("11 entries", y.row(0, 3), 1);
        y.setSkip(2);
        Checks.due("11 entries by 2", y.row(0, 3), 2);
        y.setSkip(1);
        Checks.due("11 entries by 1", y.row(0, 3), 3);
        Checks.badIndex("11 above", () -> x.row(2, 0));
        Checks.badIndex("11 below", () -> x.row(-1, 0));
        Checks.badIndex("11 both", () -> x.row(2, 7));
        Checks.badArgument("11 what above", () -> x.row(0, 7));
        Checks.badArgument("11 what below", () -> x.row(0, -1));
    }

    private static void promises12to14() {
        NineWays x = Checks.of("pack 1 4;row a 1 0 3 2 7 31 16 5 100;row b 268435455 0;row c;");
        // nine numbers; the fewest words are 2: 5 of 5 bits, then 4 of 7 bits
        Checks.due("12 report", Checks.report(x, 0), "a:4(1,0,3,2,7)5(31,16,5,100)\n");
        Checks.due("12 first", x.word(0, 0), (4 << 28) + 1 + 3 * 1024 + 2 * 32768 + 7 * 1048576);
        Checks.due("12 second", x.word(0, 1), (5 << 28) + 31 + 16 * 128 + 5 * 16384 + 100 * 2097152);
        Checks.due("12 negative", x.word(1, 0), -2147483648 + 268435455);
        int[][] parts = {{4, 5, 0, 3}, {5, 4, 5, 0}};
        for (int word = 0; word < 2; word++) {
            for (int what = 0; what < 4; what++) {
                Checks.due("13 word " + word + ", what " + what, x.wordPart(0, word, what), parts[word][what]);
            }
        }
        Checks.due("13 START behind 28 bits", x.wordPart(1, 1, 2), 1);
        Checks.due("13 the last word holds fewer", x.wordPart(1, 1, 1), 1);
        Checks.due("13 empty bits of the last word", x.wordPart(1, 1, 3), 27);
        Checks.due("14 first", x.wordSum(0, 0), 13);
        Checks.due("14 second", x.wordSum(0, 1), 152);
        Checks.due("14 great", x.wordSum(1, 0), 268435455);
        for (int k = 0; k < 2; k++) {
            int word = k == 0 ? 2 : -1;
            Checks.badIndex("12 word " + word, () -> x.word(0, word));
            Checks.badIndex("13 word " + word, () -> x.wordPart(0, word, 0));
            Checks.badIndex("14 word " + word, () -> x.wordSum(0, word));
        }
        Checks.badIndex("12 no word", () -> x.word(2, 0));
        Checks.badIndex("12 no row", () -> x.word(3, 0));
        Checks.badIndex("13 no row", () -> x.wordPart(-1, 0, 0));
        Checks.badIndex("14 no row", () -> x.wordSum(3, 0));
        Checks.badIndex("13 both", () -> x.wordPart(0, 2, 4));
        Checks.badArgument("13 what above", () -> x.wordPart(0, 0, 4));
        Checks.badArgument("13 what below", () -> x.wordPart(0, 0, -1));
    }

    private static void promises15and16() {
        NineWays x = Checks.of("pack 0 2;row a" + " 268435455".repeat(20) + ";row b;");
        Checks.due("15 entries", x.row(0, 3), 10);
        for (int entry = 0; entry < 10; entry++) {
            Checks.due("15 entry " + entry, x.entryStart(0, entry), 2 * entry);
            Checks.due("16 entry " + entry, x.entrySum(0, entry), 2L * entry * 268435455L);
        }
        int[] none = {10, 11, -1, Integer.MIN_VALUE, Integer.MAX_VALUE, 1 << 30, (1 << 30) + 1, 1 << 31};
        for (int entry : none) {
            Checks.due("15 no entry " + entry, x.entryStart(0, entry), -1);
            Checks.due("16 no entry " + entry, x.entrySum(0, entry), -1);
        }
        Checks.due("15 without words", x.entryStart(1, 0), -1);
        Checks.due("16 without words", x.entrySum(1, 0), -1);
        Checks.badIndex("15 no row", () -> x.entryStart(2, 0));
        Checks.badIndex("16 no row", () -> x.entrySum(2, 0));
        Checks.badIndex("15 below", () -> x.entryStart(-1, -1));
        Checks.badIndex("16 below", () -> x.entrySum(-1, -1));
        NineWays y = Checks.of("pack 0 1;row a 1 2 3 100 5;");
        Checks.due("16 ahead of the second word", y.entrySum(0, 1), 106);
        Checks.due("15 second word", y.entryStart(0, 1), 4);
    }

    private static void promise17() {
        NineWays x = Checks.of("pack 0 4;row a 1 5 9 100;row b;");
        Checks.due("17 report", Checks.report(x, 0), "a:5(1,5,9,100)\n");
        int[] wants = {1, 1, 1, 1, 1, 0, 2, 2, 2};
        for (int way = 0; way < 9; way++) {
            Checks.due("17 way " + way, x.why(0, 0, way), wants[way]);
        }
        x.setPrice(5, 99);
        x.setRule(2);
        Checks.due("17 report by rule 2", Checks.report(x, 0), "a:6(1,5,9)6(100)\n");
        int[] then = {1, 1, 1, 1, 1, 2, 0, 2, 2};
        for (int way = 0; way < 9; way++) {
            Checks.due("17 by rule 2, way " + way, x.why(0, 0, way), then[way]);
        }
        Checks.due("17 the last word", x.why(0, 1, 5), 2);
        Checks.due("17 the last word, too narrow", x.why(0, 1, 4), 1);
        NineWays y = Checks.of("pack 0 4;row a 1 5 9 100;row b 1;");
        for (int way = 0; way < 9; way++) {
            Checks.due("17 ahead of another row, way " + way, y.why(0, 0, way), wants[way]);
            Checks.due("17 another row, way " + way, y.why(1, 0, way), way == 0 ? 0 : 2);
        }
        Checks.badIndex("17 no way", () -> x.why(0, 0, 9));
        Checks.badIndex("17 way below", () -> x.why(0, 0, -1));
        Checks.badIndex("17 no word", () -> x.why(0, 2, 0));
        Checks.badIndex("17 word below", () -> x.why(0, -1, 0));
        Checks.badIndex("17 no words", () -> x.why(1, 0, 0));
        Checks.badIndex("17 no row", () -> x.why(2, 0, 0));
    }

    private static void promises18and19() {
        NineWays x = Checks.of("pack 0 4;row a 0 268435455 16383 1;row ab;row abcdefgh 1;");
        Checks.due("18", x.gap(), 0);
        Checks.due("19 empty", x.find(), -1);
        String[] names = {"a", "ab", "abcdefgh"};
        for (int row = 0; row < 3; row++) {
            Checks.load(x, names[row]);
            Checks.due("19 " + names[row], x.find(), row);
            Checks.due("19 it stays in the buffer", x.truncate(names[row].length()), names[row].length());
        }
        String[] none = {"b", "abc", "a ", " a", "a\n", "A", "abcdefghi", "abcdefg", "aa", "1", "a1", "ab;", "\0", "a\0"};
        for (String name : none) {
            Checks.load(x, name);
            Checks.due("19 \"" + name + "\"", x.find(), -1);
        }
        Checks.due("19 nothing without rows", new NineWays().find(), -1);
    }

    private static void promises26and27() {
        NineWays x = Checks.of("pack 0 4;row a 0 1 5;row b;row c 268435455;");
        Checks.due("26", x.filled(), (1 + 1 + 3 + 28) / 64f);
        Checks.due("26 without words", new NineWays().filled(), 1.0f);
        Checks.due("26 with an empty row", Checks.of("pack 0 4;row a;").filled(), 1.0f);
        Checks.due("26 a third", Checks.of("pack 0 4;row a 268435455 268435455 255;").filled(), 64f / 96f);
        Checks.due("27", x.meanHeld(0), 3.0);
        Checks.due("27 empty", x.meanHeld(1), 0.0);
        Checks.due("27 a part", Checks.of("pack 0 4;row a 1 1 1 1 1 1 1 20000 1 1;").meanHeld(0), 10.0 / 3.0);
        Checks.due("27 a third", Checks.of("pack 1 4;row a 1 1 268435455 1 1;").meanHeld(0), 5.0 / 3.0);
        Checks.badIndex("27 above", () -> (long) x.meanHeld(3));
        Checks.badIndex("27 below", () -> (long) x.meanHeld(-1));
    }

    private static void reportIs(String text, String want) {
        Checks.due(text, Checks.report(Checks.of(text), 0), want + "\n");
    }

    private static void rules() {
        reportIs("pack 0 4;row a 1 0 1 3 2 7 100 5;", "a:4(1,0,1,3,2)5(7,100,5)");
        reportIs("pack 0 4;row a;", "a:");
        reportIs("pack 0 4;row a;fill a 28 1;", "a:0(" + "1,".repeat(27) + "1)");
        reportIs("pack 0 4;row a;fill a 29 1;", "a:0(" + "1,".repeat(27) + "1)0(1)");
        // a way that holds more can lead to more words in all
        reportIs("pack 0 4;row a 20 1 1 1 9 9 9 9 9 9 9 20000;", "a:4(20,1,1,1,9)4(9,9,9,9,9)8(9)8(20000)");
        reportIs("pack 1 4;row a 20 1 1 1 9 9 9 9 9 9 9 20000;", "a:5(20,1,1,1)3(9,9,9,9,9,9,9)8(20000)");
        reportIs("pack 2 4;row a 20 1 1 1 9 9 9 9 9 9 9 20000;", "a:5(20,1,1,1)3(9,9,9,9,9,9,9)8(20000)");
        // of as few words, the lower way comes first
        reportIs("pack 1 4;row a 5 5;", "a:2(5,5)");
        reportIs("pack 1 4;row a 5 300 5 300;", "a:6(5,300,5)6(300)");
        // the price comes ahead of the words: two words by way 8 for nothing
        reportIs("pack 2 4;row a 5 5;price 8 0;", "a:8(5)8(5)");
        // all for the same price: as few words as can be, then the lower way
        reportIs("pack 2 4;row a 5 5;price 2 0;price 3 0;", "a:2(5,5)");
        reportIs("pack 2 4;row a 5 5;price 2 1;price 3 0;price 8 0;price 4 0;", "a:3(5,5)");
        // two words for 1 each are as good as one for 2 in price, but one is less
        reportIs("pack 2 4;row a 5 5;price 2 2;price 3 9;price 4 9;price 5 9;price 6 9;price 7 9;", "a:2(5,5)");
        reportIs("pack 2 4;row a 5 5;price 2 3;price 3 9;price 4 9;price 5 9;price 6 9;price 7 9;", "a:8(5)8(5)");
    }
}
