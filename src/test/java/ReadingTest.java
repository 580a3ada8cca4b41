/** Promises 20 to 25 and 28 to 34. */
public final class ReadingTest {
    // Its words by RULE 0 hold 2, 1, 2, 1, 2, 1 and 1 numbers.
    private static final String SEVEN_WORDS =
        "row a 9000 1 20000 9001 2 20001 9002 3 20002 9003;";

    public static void main(String[] args) {
        promise20();
        promise21();
        promises22and23();
        promise24();
        promise25();
        promises28and29();
        promise30();
        promise31();
        promise32();
        promise33();
        promise34();
        Checks.end("ReadingTest");
    }

    private static void promise20() {
        NineWays x = Checks.of("pack 0 3;" + SEVEN_WORDS + "row b;");
        Checks.due("20 report", Checks.report(x, 0), "a:7(9000,1)8(20000)7(9001,2)8(20001)7(9002,3)8(20002)7(9003)\n");
        int[] numbers = {9000, 1, 20000, 9001, 2, 20001, 9002, 3, 20002, 9003};
        int[] reads = {1, 1, 2, 3, 3, 1, 2, 2, 3, 1};
        int all = 0;
        for (int i = 0; i < 10; i++) {
            Checks.due("20 number " + i, x.read(0, i), numbers[i]);
            all += reads[i];
            Checks.due("45 reads up to " + i, x.account(3), all);
        }
        Checks.badIndex("20 behind", () -> x.read(0, 10));
        Checks.badIndex("20 ahead", () -> x.read(0, -1));
        Checks.badIndex("20 without numbers", () -> x.read(1, 0));
        Checks.badIndex("20 no row", () -> x.read(2, 0));
        Checks.badIndex("20 row below", () -> x.read(-1, 0));
        Checks.due("20 a throw reads nothing", x.account(3), all);
    }

    private static int readsForSum(NineWays x, int from, int to) {
        int before = x.account(3);
        x.sum(0, from, to);
        return x.account(3) - before;
    }

    private static void promise21() {
        NineWays x = Checks.of("pack 0 3;" + SEVEN_WORDS + "row b;row c" + " 268435455".repeat(40) + ";");
        long[] ahead = {0, 9000, 9001, 29001, 38002, 38004, 58005, 67007, 67010, 87012, 96015};
        for (int from = 0; from <= 10; from++) {
            for (int to = from; to <= 10; to++) {
                Checks.due("21 sum from " + from + " to " + to, x.sum(0, from, to), ahead[to] - ahead[from]);
            }
        }
        Checks.due("21 great", x.sum(2, 0, 40), 40L * 268435455L);
        Checks.due("21 without numbers", x.sum(1, 0, 0), 0);
        // the sum ahead of each index reads so many words
        int[] reads = {0, 1, 1, 2, 3, 0, 1, 2, 2, 0, 1};
        for (int i = 0; i <= 10; i++) {
            Checks.due("21 reads, 0 to " + i, readsForSum(x, 0, i), reads[i]);
            Checks.due("21 reads, " + i + " to " + i, readsForSum(x, i, i), 2 * reads[i]);
            Checks.due("21 reads, " + i + " to 10", readsForSum(x, i, 10), reads[i] + 1);
        }
        int before = x.account(3);
        x.sum(1, 0, 0);
        Checks.badArgument("21 from below 0", () -> x.sum(0, -1, 5));
        Checks.badArgument("21 from above to", () -> x.sum(0, 5, 4));
        Checks.badArgument("21 to above", () -> x.sum(0, 0, 11));
        Checks.badArgument("21 both above", () -> x.sum(0, 11, 11));
        Checks.badArgument("21 without numbers", () -> x.sum(1, 0, 1));
        Checks.badArgument("21 far", () -> x.sum(0, Integer.MIN_VALUE, Integer.MAX_VALUE));
        Checks.badIndex("21 no row", () -> x.sum(3, 0, 0));
        Checks.badIndex("21 both", () -> x.sum(-1, 5, 4));
        Checks.due("21 none of these reads", x.account(3), before);
    }

    private static int readsForFirst(NineWays x, int value) {
        int before = x.account(3);
        x.first(0, value);
        return x.account(3) - before;
    }

    private static int readsForMany(NineWays x, int value) {
        int before = x.account(3);
        x.many(0, value);
        return x.account(3) - before;
    }

    private static void promises22and23() {
        NineWays x = Checks.of("pack 0 4;row a 1 0 1 1 1 9000 1 20000 1 3 1;row b;");
        Checks.due("22 report", Checks.report(x, 0), "a:4(1,0,1,1,1)7(9000,1)8(20000)1(1,3,1)\n");
        int[][] wants = { // value, first, its reads, many, its reads
            {1, 0, 1, 7, 4},
            {0, 1, 1, 1, 4},
            {3, 9, 4, 1, 4},
            {4, -1, 3, 0, 3},
            {31, -1, 3, 0, 3},
            {32, -1, 2, 0, 2},
            {9000, 5, 1, 1, 2},
            {16383, -1, 2, 0, 2},
            {16384, -1, 1, 0, 1},
            {20000, 7, 1, 1, 1},
            {268435455, -1, 1, 0, 1},
            {268435456, -1, 0, 0, 0},
            {Integer.MAX_VALUE, -1, 0, 0, 0},
            {-1, -1, 0, 0, 0},
            {Integer.MIN_VALUE, -1, 0, 0, 0},
        };
        for (int[] want : wants) {
            Checks.due("22 first " + want[0], x.first(0, want[0]), want[1]);
            Checks.due("22 reads for first " + want[0], readsForFirst(x, want[0]), want[2]);
            Checks.due("23 many " + want[0], x.many(0, want[0]), want[3]);
            Checks.due("23 reads for many " + want[0], readsForMany(x, want[0]), want[4]);
        }
        Checks.due("22 without numbers", x.first(1, 0), -1);
        Checks.due("23 without numbers", x.many(1, 0), 0);
        // the bits behind the numbers of a word are no numbers
        NineWays y = Checks.of("pack 0 4;row a 1 1;");
        Checks.due("22 behind the numbers", y.first(0, 0), -1);
        Checks.due("23 behind the numbers", y.many(0, 0), 0);
        Checks.badIndex("22 no row", () -> x.first(2, 0));
        Checks.badIndex("22 row below", () -> x.first(-1, 0));
        Checks.badIndex("23 no row", () -> x.many(2, 0));
        Checks.badIndex("23 row below", () -> x.many(-1, 0));
    }

    private static void promise24() {
        NineWays x = Checks.of("pack 0 3;" + SEVEN_WORDS + "row b;");
        int[] reads = {1, 1, 2, 3, 3, 1, 2, 2, 3, 1};
        for (int i = 0; i < 10; i++) {
            Checks.due("24 number " + i, x.readsFor(0, i), reads[i]);
        }
        Checks.due("24 reads nothing", x.account(3), 0);
        x.setSkip(9);
        Checks.due("24 by a great SKIP", x.readsFor(0, 9), 7);
        x.setSkip(1);
        Checks.due("24 by SKIP 1", x.readsFor(0, 8), 1);
        Checks.badIndex("24 behind", () -> x.readsFor(0, 10));
        Checks.badIndex("24 ahead", () -> x.readsFor(0, -1));
        Checks.badIndex("24 without numbers", () -> x.readsFor(1, 0));
        Checks.badIndex("24 no row", () -> x.readsFor(2, 0));
    }

    private static void promise25() {
        NineWays x = Checks.of("pack 0 4;row a 3 9 2;row b;row c 268435455 1;row d 0;");
        Checks.due("25", x.greatest(0), 9);
        Checks.due("25 without numbers", x.greatest(1), -1);
        Checks.due("25 the greatest there is", x.greatest(2), 268435455);
        Checks.due("25 the least there is", x.greatest(3), 0);
        Checks.badIndex("25 no row", () -> x.greatest(4));
        Checks.badIndex("25 row below", () -> x.greatest(-1));
        Checks.due("25 reads nothing", x.account(3), 0);
    }

    private static void promises28and29() {
        NineWays x = Checks.of("pack 0 4;row a 1 1 1 1 1 1 1 9 9 9 9 9 9 9;row b;price 3 50;price 8 2;");
        Checks.due("28 report", Checks.report(x, 0), "a:3(1,1,1,1,1,1,1)3(9,9,9,9,9,9,9)\n");
        Checks.due("28 rule 0", x.wordsBy(0, 0), 2);
        Checks.due("28 rule 1", x.wordsBy(0, 1), 2);
        Checks.due("28 rule 2", x.wordsBy(0, 2), 3);
        Checks.due("29 rule 0", x.priceBy(0, 0), 100);
        Checks.due("29 rule 1", x.priceBy(0, 1), 100);
        Checks.due("29 rule 2", x.priceBy(0, 2), 3);
        NineWays y = Checks.of("pack 1 4;row a 9000 1 1 1 1 1 1;row b 5 5 5;price 2 9;");
        Checks.due("28 greedy", y.wordsBy(0, 0), 2);
        Checks.due("29 the lower way counts", y.priceBy(1, 1), 9);
        Checks.due("29 the lower price counts", y.priceBy(1, 2), 1);
        NineWays w = Checks.of("pack 0 4;row a 20 1 1 1 9 9 9 9 9 9 9 20000;price 4 7;row b;");
        Checks.due("28 a way that holds more can lead to more words", w.wordsBy(0, 0), 4);
        Checks.due("28 the fewest", w.wordsBy(0, 1), 3);
        Checks.due("29 of more words", w.priceBy(0, 0), 16);
        Checks.due("29 of the fewest", w.priceBy(0, 1), 3);
        NineWays z = Checks.of("pack 0 4;row a 1 1 1 1 1 1 1 9000 5;price 3 10;price 7 20;price 8 50;row b;");
        Checks.due("29 each word counts", z.priceBy(0, 0), 30);
        for (int rule = 0; rule < 3; rule++) {
            Checks.due("28 without numbers", x.wordsBy(1, rule), 0);
            Checks.due("29 without numbers", x.priceBy(1, rule), 0);
        }
        for (int k = 0; k < 2; k++) {
            int rule = k == 0 ? 3 : -1;
            Checks.badArgument("28 rule " + rule, () -> x.wordsBy(0, rule));
            Checks.badArgument("29 rule " + rule, () -> x.priceBy(0, rule));
            Checks.badIndex("28 both " + rule, () -> x.wordsBy(2, rule));
            Checks.badIndex("29 both " + rule, () -> x.priceBy(-1, rule));
        }
        Checks.due("28 nothing changes", x.setting(1), 0);
    }

    private static void promise30() {
        NineWays x = Checks.of("pack 0 4;row a 1 1 1 1 1 1 1 9000;row b;");
        Checks.due("30 report", Checks.report(x, 0), "a:3(1,1,1,1,1,1,1)7(9000)\n");
        Checks.due("30 the last one less", x.wordsIf(0, 7, 1), 1);
        Checks.due("30 the first one more", x.wordsIf(0, 0, 9000), 3);
        Checks.due("30 the same", x.wordsIf(0, 7, 9000), 2);
        Checks.due("30 a great one", x.wordsIf(0, 3, 268435455), 4);
        Checks.due("30 the least", x.wordsIf(0, 7, 0), 1);
        x.setPrice(8, 0);
        x.setRule(2);
        Checks.due("30 by the rule now", x.wordsIf(0, 7, 1), 8);
        Checks.due("30 nothing changes", x.greatest(0), 9000);
        Checks.badIndex("30 behind", () -> x.wordsIf(0, 8, 1));
        Checks.badIndex("30 ahead", () -> x.wordsIf(0, -1, -1));
        Checks.badIndex("30 without numbers", () -> x.wordsIf(1, 0, 1));
        Checks.badIndex("30 no row", () -> x.wordsIf(2, 0, 1));
        Checks.badArgument("30 negative", () -> x.wordsIf(0, 0, -1));
        Checks.badArgument("30 too great", () -> x.wordsIf(0, 0, 268435456));
    }

    private static void promise31() {
        Checks.due("31 the great one goes", Checks.of("pack 0 4;row a 1 1 1 268435455 1 1;").bestRemove(0), 3);
        Checks.due("31 none is better", Checks.of("pack 0 4;row a 1 2 3;").bestRemove(0), 0);
        Checks.due("31 the only one", Checks.of("pack 0 4;row a 5;").bestRemove(0), 0);
        Checks.due("31 without numbers", Checks.of("pack 0 4;row a;").bestRemove(0), -1);
        Checks.due("31 each has a word", Checks.of("pack 0 4;row a;fill a 60 268435455;").bestRemove(0), 0);
        NineWays x = Checks.of("pack 2 4;row a 5 5 300;price 8 0;price 2 3;row b 1;");
        Checks.due("31 by the rule now", x.bestRemove(0), 0);
        x.setRule(0);
        Checks.due("31 by another rule", x.bestRemove(0), 0);
        Checks.due("31 the two last do", Checks.of("pack 0 4;row a 1 1 268435455 268435455 1;").bestRemove(0), 2);
        Checks.badIndex("31 no row", () -> x.bestRemove(2));
        Checks.badIndex("31 row below", () -> x.bestRemove(-1));
    }

    private static void promise32() {
        NineWays x = Checks.of("pack 0 4;row a 5 5;price 8 0;price 2 9;row b;row c 5;");
        Checks.due("32 cheaper", x.dearWay(0), 2);
        Checks.due("32 without numbers", x.dearWay(1), -1);
        Checks.due("32 one word is the least", x.dearWay(2), -1);
        Checks.due("32 whatever RULE is", x.setRule(1), 0);
        Checks.due("32 by rule 1", x.dearWay(0), 2);
        x.setRule(2);
        Checks.due("32 by rule 2", x.dearWay(0), 2);
        // only a higher price of way 8 helps, where all others are dearer than any change can mend
        NineWays y = Checks.of("pack 0 4;row a 300 9000;price 8 1;price 7 3;");
        Checks.due("32 the lower way of two", y.dearWay(0), 7);
        NineWays z = Checks.of("pack 0 4;row a 1 9000 1 9000 1 9000;price 7 40;price 8 10;");
        Checks.due("32 cheaper for many words", z.dearWay(0), 7);
        NineWays w = Checks.of("pack 2 4;row a 5 5;price 2 0;");
        Checks.due("32 the fewest already", w.dearWay(0), -1);
        NineWays v = Checks.of("pack 0 4;row a 1 1 1;price 8 0;");
        Checks.due("32 way 0 for nothing", v.dearWay(0), 0);
        // with way 8 at 0 a way that costs 0, too, ties in price, and has fewer words
        Checks.due("32 nothing changes", v.way(0, 2), 1);
        NineWays u = Checks.of("pack 0 4;row a 9000 20000 9000 9000;price 8 0;");
        Checks.due("32 a part", u.dearWay(0), 7);
        // a dearer way 0 leaves nothing cheaper than both numbers in one word
        String dear = "price 2 99;price 3 99;price 4 99;price 5 99;price 6 99;price 7 99;price 8 50;price 0 0;";
        Checks.due("32 dearer", Checks.of("pack 0 4;row a 9000 1;price 1 99;" + dear).dearWay(0), 0);
        Checks.due("32 one price alone", Checks.of("pack 0 4;row a 9000 1;price 1 0;" + dear).dearWay(0), 7);
        Checks.badIndex("32 no row", () -> x.dearWay(3));
        Checks.badIndex("32 row below", () -> x.dearWay(-1));
    }

    private static void promise33() {
        NineWays x = Checks.of("pack 0 4;row a 1 1 1;row b 2;row c;row d;fill d 60 268435455;");
        Checks.due("33 with another", x.wordsTogether(0, 1), 1);
        Checks.due("33 with itself", x.wordsTogether(0, 0), 1);
        Checks.due("33 without numbers", x.wordsTogether(2, 2), 0);
        Checks.due("33 one without numbers", x.wordsTogether(2, 0), 1);
        Checks.due("33 with 120 numbers", x.wordsTogether(3, 3), 120);
        Checks.due("33 with 63 numbers", x.wordsTogether(3, 0), 61);
        Checks.due("33 nothing changes", x.setting(3), 64);
        NineWays y = Checks.of("pack 0 4;row a 9000 9000 20000;row b 20000 9000;");
        Checks.due("33 the other one is behind", y.wordsTogether(0, 1), 4);
        Checks.due("33 the other way round", y.wordsTogether(1, 0), 4);
        NineWays z = Checks.of("pack 0 4;row a 9000;row b 9000 20000;");
        Checks.due("33 in this order", z.wordsTogether(0, 1), 2);
        Checks.due("33 in that order", z.wordsTogether(1, 0), 3);
        Checks.badIndex("33 no row", () -> x.wordsTogether(4, 0));
        Checks.badIndex("33 no other row", () -> x.wordsTogether(0, 4));
        Checks.badIndex("33 row below", () -> x.wordsTogether(-1, 0));
        Checks.badIndex("33 other row below", () -> x.wordsTogether(0, -1));
    }

    private static void promise34() {
        NineWays x = Checks.of("pack 0 4;row a 1 1 1;row b;row c 268435455 268435455;row d;fill d 60 268435455;");
        Checks.due("34 one word", x.bestSkip(0), 9);
        Checks.due("34 without numbers", x.bestSkip(1), -1);
        Checks.due("34 two words", x.bestSkip(2), 1);
        Checks.due("34 many words", x.bestSkip(3), 1);
        Checks.due("34 nothing changes", x.setting(2), 4);
        Checks.due("34 reads nothing", x.account(3), 0);
        Checks.badIndex("34 no row", () -> x.bestSkip(4));
        Checks.badIndex("34 row below", () -> x.bestSkip(-1));
    }
}
