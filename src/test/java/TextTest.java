/** Promises 1 to 7 and the grammar of texts. */
public final class TextTest {
    private static final String PACK = "pack 0 4;";

    public static void main(String[] args) {
        promise1();
        promise2();
        promise3();
        promise4();
        promise5();
        promises6and7();
        tokens();
        systemErrors();
        scriptErrors();
        Checks.end("TextTest");
    }

    private static void promise1() {
        NineWays x = new NineWays();
        Checks.due("1 rows", x.setting(0), 0);
        Checks.due("1 rule", x.setting(1), 0);
        Checks.due("1 skip", x.setting(2), 4);
        for (int way = 0; way < 9; way++) {
            Checks.due("1 price", x.way(way, 2), 1);
        }
        for (int what = 0; what < 4; what++) {
            Checks.due("1 account " + what, x.account(what), 0);
        }
        Checks.due("1 buffer", x.truncate(0), 0);
        Checks.badArgument("1 buffer is empty", () -> x.truncate(1));
        Checks.due("1 refusal", x.refusal(), 0);
        Checks.due("1 undo", x.undo(), -1);
        Checks.badIndex("1 report", () -> x.reportByte(0));
        Checks.badState("1 saved", x::restore);
        Checks.due("1 NONE", NineWays.NONE, -1);
    }

    private static void promise2() {
        NineWays x = new NineWays();
        Checks.due("2 first", x.feed(0x726f7720, 0x61, 0, 0, -1), 20);
        for (int k = 2; k <= 30; k++) {
            Checks.due("2 feed " + k, x.feed(0, 0, 0, 0, 0), 20 * k);
        }
        Checks.badState("2 over 600", () -> x.feed(0, 0, 0, 0, 0));
        Checks.due("2 nothing changed", x.truncate(600), 600);
        Checks.due("2 truncate", x.truncate(581), 581);
        Checks.badState("2 601 bytes", () -> x.feed(0, 0, 0, 0, 0));
        x.truncate(580);
        Checks.due("2 just 600", x.feed(0, 0, 0, 0, 0), 600);

        NineWays y = new NineWays();
        y.feed(0x7061636b, 0x20302034, 0x3b726f77, 0x20616220, 0x333b2020);
        y.readText();
        Checks.due("2 order of bytes", Checks.report(y, 0), "ab:1(3)\n");
    }

    private static void promise3() {
        NineWays x = new NineWays();
        x.feed(1, 2, 3, 4, 5);
        Checks.badArgument("3 negative", () -> x.truncate(-1));
        Checks.badArgument("3 least", () -> x.truncate(Integer.MIN_VALUE));
        Checks.badArgument("3 greater", () -> x.truncate(21));
        Checks.due("3 equal", x.truncate(20), 20);
        Checks.due("3 less", x.truncate(7), 7);
        Checks.badArgument("3 it is gone", () -> x.truncate(8));
        Checks.due("3 feed behind", x.feed(0, 0, 0, 0, 0), 27);
        Checks.due("3 to nothing", x.truncate(0), 0);
    }

    private static void promise4() {
        NineWays x = Checks.of("pack 2 7;row ab 1 2;price 3 40;row c;fill c 3 9;");
        Checks.due("4 all", Checks.all(x), "2 7 1 1 1 40 1 1 1 1 1 ab:1(1,2)\n c:4(9,9,9)\n");
        x.append(0, 1);
        x.report(1);
        x.save();
        Checks.run(x, "new a;new b;new c;");
        Checks.load(x, "pack 1 2;row z 5;");
        Checks.due("4 rows", x.readText(), 1);
        Checks.badArgument("4 buffer is empty", () -> x.truncate(1));
        Checks.due("4 undo is forgotten", x.undo(), -1);
        Checks.due("4 acts stay", x.account(0), 3);
        Checks.due("4 refusals stay", x.account(1), 1);
        Checks.due("4 refusal stays", x.refusal(), 101);
        Checks.due("4 report stays", x.reportByte(0), 'c');
        Checks.due("4 all is replaced", Checks.all(x), "1 2 1 1 1 1 1 1 1 1 1 z:2(5)\n");
        Checks.due("4 saved stays", x.restore(), 6);
        Checks.due("4 what was saved", Checks.all(x), "2 7 1 1 1 40 1 1 1 1 1 ab:1(1,2,1)\n c:4(9,9,9)\n");

        Checks.load(x, "pack 2 7;row ab 1 2 1;price 3 40;row c;fill c 3 9;");
        Checks.due("4 a price can be told again in another text", x.readText(), 2);
        x.append(0, 3);
        String before = Checks.all(x);
        Checks.load(x, "pack 1 2;row y 6;row y;");
        Checks.badArgument("4 error", x::readText);
        Checks.badArgument("4 buffer is empty on an error", () -> x.truncate(1));
        Checks.due("4 nothing else changed", Checks.all(x), before);
        Checks.due("4 undo stays on an error", x.undo(), 0);
        Checks.load(x, PACK);
        Checks.due("4 no rows", x.readText(), 0);
    }

    private static void promise5() {
        NineWays x = Checks.of("pack 0 4;row a 1 2 3;row b 4;");
        Checks.due("5 done", Checks.run(x, "add a 5; put a 0 9; insert b 0 7; remove a 1; join b a; new c;"), 6);
        Checks.due("5 all", Checks.all(x), "0 4 1 1 1 1 1 1 1 1 1 a:3(9,3,5)\n b:3(7,4,9,3,5)\n c:\n");
        Checks.due("5 settings", Checks.run(x, "rule 1; skip 9; price 8 99;"), 3);
        Checks.due("5 rule", x.setting(1), 1);
        Checks.due("5 skip", x.setting(2), 9);
        Checks.due("5 price", x.way(8, 2), 99);
        Checks.badArgument("5 buffer is empty", () -> x.truncate(1));
        Checks.due("5 nothing", Checks.run(x, ""), 0);
        Checks.due("5 blanks", Checks.run(x, " \n "), 0);
        Checks.due("5 repeat", Checks.run(x, "repeat 3 (add c 1; repeat 2 (add c 2;); );"), 9);
        Checks.due("5 repeated", Checks.report(x, 2), "c:1(1,2,2,1,2,2,1,2,2)\n");
        Checks.due("5 empty repeats", Checks.run(x, "repeat 20 (repeat 20 (););skip 1;"), 1);

        String before = Checks.all(x);
        Checks.load(x, "add a 1; add a");
        Checks.badArgument("5 error", x::runScript);
        Checks.badArgument("5 buffer is empty on an error", () -> x.truncate(1));
        Checks.due("5 nothing is done of a script with an error", Checks.all(x), before);
    }

    private static void promises6and7() {
        NineWays x = new NineWays();
        Checks.due("6 none", x.errorCode(), 0);
        Checks.due("7 none", x.errorPosition(), -1);
        Checks.load(x, "pack 0 44;");
        Checks.outcome(x::readText);
        Checks.due("6 code", x.errorCode(), 2);
        Checks.due("7 position", x.errorPosition(), 7);
        Checks.load(x, PACK);
        Checks.due("6 stays while the buffer is fed", x.errorCode(), 2);
        x.readText();
        Checks.due("6 of a good text", x.errorCode(), 0);
        Checks.due("7 of a good text", x.errorPosition(), -1);
        Checks.load(x, "skip 3; nothing;");
        Checks.outcome(x::runScript);
        Checks.due("6 of a script", x.errorCode(), 1);
        Checks.due("7 of a script", x.errorPosition(), 8);
        Checks.load(x, "ab");
        x.find();
        x.add();
        x.save();
        x.restore();
        Checks.due("6 stays", x.errorCode(), 1);
        Checks.due("7 stays", x.errorPosition(), 8);
        Checks.due("5 a script that ends early has no error", Checks.run(x, "skip 0;"), 0);
        Checks.due("6 of a good script", x.errorCode(), 0);
        Checks.due("7 of a good script", x.errorPosition(), -1);
    }

    private static void error(String text, String want) {
        Checks.due("system \"" + text + "\"", Checks.systemError(text), want);
    }

    private static void scriptError(String text, String want) {
        Checks.due("script \"" + text + "\"", Checks.scriptError(text), want);
    }

    private static void tokens() {
        error("pack0 4;", "0 at -1");
        error("\n pack\n0\n4 ; \n", "0 at -1");
        error("pack 0 4;row abcdefgh 000000001;", "0 at -1");
        error("pack 0 4;row row5 6;fill row1 2;row pack;", "0 at -1");
        error("pack 0 4;row abcdefghi 1;", "1 at 13");
        error("pack 0 4;row a 0000000001;", "1 at 15");
        error("pack 0 4;row a 1234567890;", "1 at 15");
        error("pack 0 4;row a 12345678901234567890;", "1 at 15");
        error("pack 0 4;row a 999999999;", "2 at 15");
        error("pack 0 4;\tprice 1 1;", "1 at 9");
        error("pack 0 4;\rrow a;", "1 at 9");
        error("pack 0 4;row A;", "1 at 13");
        error("pack 0 4;row a{;", "1 at 14");
        error("pack 0 4;row `;", "1 at 13");
        error("pack 0 4;row a /;", "1 at 15");
        error("pack 0 4;row a :;", "1 at 15");
        error("pack 0 4;row a -1;", "1 at 15");
        error("pack 0 4;row a \u00e1;", "1 at 15");
        error("pack 0 4;row a \u00ff;", "1 at 15");
        error("pack 0 4;\0", "1 at 9");
        error("packed 0 4;", "1 at 0");
    }

    private static void systemErrors() {
        error("", "1 at 0");
        error("  \n", "1 at 3");
        error("row a;", "1 at 0");
        error("pack", "1 at 4");
        error("pack ;", "1 at 5");
        error("pack a 4;", "1 at 5");
        error("pack 0", "1 at 6");
        error("pack 0;", "1 at 6");
        error("pack 0 4", "1 at 8");
        error("pack 0 4 ", "1 at 9");
        error("pack 0 4 5;", "1 at 9");
        error("pack 3 4;", "2 at 5");
        error("pack 2 0;", "2 at 7");
        error("pack 2 9;", "0 at -1");
        error("pack 2 10;", "2 at 7");
        error("pack 0 4;;", "1 at 9");
        error("pack 0 4;5", "1 at 9");
        error("pack 0 4;(", "1 at 9");
        error("pack 0 4;pack 0 4;", "1 at 9");
        error("pack 0 4;add a 1;", "1 at 9");
        error("pack 0 4;row", "1 at 12");
        error("pack 0 4;row;", "1 at 12");
        error("pack 0 4;row 5;", "1 at 13");
        error("pack 0 4;row a b;", "1 at 15");
        error("pack 0 4;row a 1 (", "1 at 17");
        error("pack 0 4;row a 1 2", "1 at 18");
        error("pack 0 4;row a 268435455;", "0 at -1");
        error("pack 0 4;row a 268435456;", "2 at 15");
        error("pack 0 4;row a;row ab;row a;", "3 at 26");
        error("pack 0 4;row a;row b;row c;row d;", "0 at -1");
        error("pack 0 4;row a;row b;row c;row d;row a;", "5 at 33");
        error("pack 0 4;row a" + " 1".repeat(60) + ";", "0 at -1");
        error("pack 0 4;row a" + " 1".repeat(61) + ";", "5 at 135");
        error("pack 0 4;row a" + " 1".repeat(60) + " 268435456;", "2 at 135");
        error("pack 0 4;row a" + " 1".repeat(60) + " x;", "1 at 135");
        error("pack 0 4;price", "1 at 14");
        error("pack 0 4;price a 1;", "1 at 15");
        error("pack 0 4;price 8 99;", "0 at -1");
        error("pack 0 4;price 9 1;", "2 at 15");
        error("pack 0 4;price 8 100;", "2 at 17");
        error("pack 0 4;price 8;", "1 at 16");
        error("pack 0 4;price 8 1;price 7 1;price 8 1;", "3 at 35");
        error("pack 0 4;price 8 1;price 8;", "3 at 25");
        error("pack 0 4;fill;", "1 at 13");
        error("pack 0 4;fill a 1 1;", "4 at 14");
        error("pack 0 4;fill a 1 1;row a;", "4 at 14");
        error("pack 0 4;row a;fill 1 1 1;", "1 at 20");
        error("pack 0 4;row a;fill a;", "1 at 21");
        error("pack 0 4;row a;fill a 0 1;", "2 at 22");
        error("pack 0 4;row a;fill a 60 1;", "0 at -1");
        error("pack 0 4;row a;fill a 61 1;", "2 at 22");
        error("pack 0 4;row a 1;fill a 60 1;", "5 at 24");
        error("pack 0 4;row a 1;fill a 61 1;", "2 at 24");
        error("pack 0 4;row a 1;fill a 59 1;fill a 1 1;", "5 at 36");
        error("pack 0 4;row a;fill a 5;", "1 at 23");
        error("pack 0 4;row a;fill a 5 268435455;", "0 at -1");
        error("pack 0 4;row a;fill a 5 0;", "0 at -1");
        error("pack 0 4;row a;fill a 5 268435456;", "2 at 24");
        error("pack 0 4;row a;fill a 5 1 1;", "1 at 26");
        Checks.due("4 fill", Checks.report(Checks.of("pack 0 4;row a 7;fill a 3 5;"), 0), "a:2(7,5,5,5)\n");
    }

    private static void scriptErrors() {
        scriptError("add", "1 at 3");
        scriptError("add 1 1;", "1 at 4");
        scriptError("add a;", "1 at 5");
        scriptError("add a 1", "1 at 7");
        scriptError("add a 1 1;", "1 at 8");
        scriptError("add a 999999999;", "0 at -1");
        scriptError("add a 1000000000;", "1 at 6");
        scriptError("new;", "1 at 3");
        scriptError("new a b;", "1 at 6");
        scriptError("put a 1;", "1 at 7");
        scriptError("insert a 1;", "1 at 10");
        scriptError("remove a;", "1 at 8");
        scriptError("join a;", "1 at 6");
        scriptError("join a 1;", "1 at 7");
        scriptError("rule;", "1 at 4");
        scriptError("skip a;", "1 at 5");
        scriptError("price 1;", "1 at 7");
        scriptError("row a 1;", "1 at 0");
        scriptError("5;", "1 at 0");
        scriptError(";", "1 at 0");
        scriptError(")", "1 at 0");
        scriptError("skip 1;)", "1 at 7");
        scriptError("skip 1;skip 2", "1 at 13");
        scriptError("repeat 0 ();", "2 at 7");
        scriptError("repeat 1 ();", "0 at -1");
        scriptError("repeat 20 ();", "0 at -1");
        scriptError("repeat 21 ();", "2 at 7");
        scriptError("repeat ();", "1 at 7");
        scriptError("repeat 2;", "1 at 8");
        scriptError("repeat 2 (", "1 at 10");
        scriptError("repeat 2 (skip 1)", "1 at 16");
        scriptError("repeat 2 (skip 1;", "1 at 17");
        scriptError("repeat 2 (skip 1;)", "1 at 18");
        scriptError("repeat 2 (skip 1;));", "1 at 18");
        scriptError("repeat 2 (;);", "1 at 10");
        scriptError("repeat 2 (repeat 2 (skip 1;););", "0 at -1");
        scriptError("repeat 2 (repeat 2 (repeat 2 (skip 1;);););", "3 at 20");
        scriptError("repeat 2 (repeat 2 ();repeat 2 (););repeat 1();", "0 at -1");
        scriptError("skip 1;".repeat(30), "0 at -1");
        scriptError("skip 1;".repeat(31), "5 at 210");
        scriptError("skip 1;".repeat(30) + "what 1;", "1 at 210");
        scriptError("skip 1;".repeat(29) + "repeat 2(skip 1;);", "5 at 212");
        scriptError("skip 1;".repeat(28) + "repeat 2(skip 1;);", "0 at -1");
        scriptError("skip 1;".repeat(28) + "repeat 2(repeat 2(repeat 2();););", "3 at 214");
        NineWays x = new NineWays();
        Checks.load(x, "repeat 2(repeat 2(");
        Checks.badArgument("5 it ends in brackets", x::runScript);
        Checks.due("5 the next one starts outside of them", Checks.run(x, "skip 1;"), 1);
        Checks.load(x, "skip 1;)");
        Checks.badArgument("5 and ends there", x::runScript);
        Checks.due("7 behind brackets", x.errorPosition(), 7);
    }
}
