/** Promises 35 to 46, 49 and 50: changes, refusals, accounts, undo, saving. */
public final class ChangesTest {
    private static final int MOST = 268435455;

    public static void main(String[] args) {
        promise35();
        promise36();
        promise37();
        promise38();
        promise39();
        promise40();
        promises41to43();
        promise44();
        promise45();
        promise46();
        scriptsThatEndEarly();
        promises47and48();
        promises49and50();
        Checks.end("ChangesTest");
    }

    private static void promise35() {
        NineWays x = new NineWays();
        Checks.due("35 empty name", x.add(), -102);
        Checks.due("35 the reason", x.refusal(), 102);
        Checks.due("35 first", Checks.added(x, "a"), 0);
        Checks.badArgument("35 the buffer is emptied", () -> x.truncate(1));
        Checks.due("35 eight letters", Checks.added(x, "abcdefgh"), 1);
        String[] none = {"a", "abcdefghi", "a b", "a ", " a", "A", "1", "a1", "a\n", "abcdefgh", "{", "`", "\u00e1"};
        for (String name : none) {
            Checks.due("35 \"" + name + "\"", Checks.added(x, name), -102);
            Checks.due("35 the buffer stays", x.truncate(name.length()), name.length());
        }
        Checks.due("35 all z", Checks.added(x, "zzzzzzzz"), 2);
        Checks.due("35 the last", Checks.added(x, "b"), 3);
        Checks.due("35 full", Checks.added(x, "c"), -101);
        Checks.due("35 the lowest reason", Checks.added(x, "a"), -101);
        Checks.due("35 the buffer stays if it is full", x.truncate(1), 1);
        Checks.due("35 rows", Checks.all(x), "0 4 1 1 1 1 1 1 1 1 1 a:\n abcdefgh:\n zzzzzzzz:\n b:\n");
        Checks.due("35 its words", x.row(3, 1), 0);
    }

    private static void promise36() {
        NineWays x = Checks.of("pack 0 4;row a;row b;fill b 59 1;");
        Checks.due("36 first", x.append(0, 1), 1);
        Checks.due("36 second", x.append(0, MOST), 2);
        Checks.due("36 third", x.append(0, 0), 3);
        Checks.due("36 words", Checks.report(x, 0), "a:8(1)8(268435455)0(0)\n");
        Checks.due("36 the 60th", x.append(1, 1), 3);
        Checks.due("36 the 61st", x.append(1, 1), -103);
        Checks.badArgument("36 an exception comes ahead of a refusal", () -> x.append(1, -1));
        Checks.badArgument("36 negative", () -> x.append(0, -1));
        Checks.badArgument("36 too great", () -> x.append(0, MOST + 1));
        Checks.badIndex("36 no row", () -> x.append(2, 0));
        Checks.badIndex("36 both", () -> x.append(-1, -1));
        Checks.due("36 numbers", x.setting(3), 63);
    }

    private static void promise37() {
        NineWays x = Checks.of("pack 0 4;row a 1 2 3;row b;");
        Checks.due("37 first", x.put(0, 0, MOST), 2);
        Checks.due("37 last", x.put(0, 2, 0), 2);
        Checks.due("37 words", Checks.report(x, 0), "a:8(268435455)1(2,0)\n");
        Checks.due("37 in between", x.put(0, 1, 20000), 3);
        Checks.badIndex("37 behind", () -> x.put(0, 3, 1));
        Checks.badIndex("37 ahead", () -> x.put(0, -1, 1));
        Checks.badIndex("37 without numbers", () -> x.put(1, 0, 1));
        Checks.badIndex("37 no row", () -> x.put(2, 0, 1));
        Checks.badIndex("37 both", () -> x.put(0, 3, -1));
        Checks.badArgument("37 negative", () -> x.put(0, 0, -1));
        Checks.badArgument("37 too great", () -> x.put(0, 0, MOST + 1));
        Checks.due("37 nothing changed", Checks.report(x, 0), "a:8(268435455)8(20000)0(0)\n");
    }

    private static void promise38() {
        NineWays x = Checks.of("pack 0 4;row a;row b;fill b 60 1;");
        Checks.due("38 the first", x.insert(0, 0, 5), 1);
        Checks.due("38 ahead", x.insert(0, 0, 6), 1);
        Checks.due("38 behind", x.insert(0, 2, 7), 1);
        Checks.due("38 in between", x.insert(0, 1, MOST), 3);
        Checks.due("38 words", Checks.report(x, 0), "a:8(6)8(268435455)2(5,7)\n");
        Checks.due("38 full", x.insert(1, 0, 1), -103);
        Checks.due("38 full, behind", x.insert(1, 60, 1), -103);
        Checks.badIndex("38 full, beyond", () -> x.insert(1, 61, 1));
        Checks.badIndex("38 beyond", () -> x.insert(0, 5, 1));
        Checks.badIndex("38 ahead of 0", () -> x.insert(0, -1, 1));
        Checks.badIndex("38 no row", () -> x.insert(2, 0, 1));
        Checks.badIndex("38 both", () -> x.insert(0, 5, -1));
        Checks.badArgument("38 negative", () -> x.insert(1, 0, -1));
        Checks.badArgument("38 too great", () -> x.insert(0, 0, MOST + 1));
        Checks.due("38 numbers", x.setting(3), 64);
    }

    private static void promise39() {
        NineWays x = Checks.of("pack 0 4;row a 1 9000 2 20000 3;row b;");
        Checks.due("39 in between", x.remove(0, 3), 2);
        Checks.due("39 words", Checks.report(x, 0), "a:7(1,9000)1(2,3)\n");
        Checks.due("39 the first", x.remove(0, 0), 2);
        Checks.due("39 the last", x.remove(0, 2), 1);
        Checks.due("39 words then", Checks.report(x, 0), "a:7(9000,2)\n");
        Checks.badIndex("39 behind", () -> x.remove(0, 2));
        Checks.badIndex("39 ahead", () -> x.remove(0, -1));
        Checks.badIndex("39 no row", () -> x.remove(2, 0));
        Checks.badIndex("39 row below", () -> x.remove(-1, 0));
        x.remove(0, 0);
        Checks.due("39 the only one", x.remove(0, 0), 0);
        Checks.badIndex("39 without numbers", () -> x.remove(0, 0));
        NineWays y = Checks.of("pack 0 4;row a;fill a 60 268435455;");
        Checks.due("39 of sixty", y.remove(0, 59), 59);
        Checks.due("39 of fifty-nine", y.remove(0, 0), 58);
    }

    private static void promise40() {
        NineWays x = Checks.of("pack 0 4;row a 1 2;row b 20000;row c;row d;fill d 58 1;");
        Checks.due("40 behind", x.join(0, 1), 2);
        Checks.due("40 words", Checks.report(x, 0), "a:7(1,2)8(20000)\n");
        Checks.due("40 they stay there", Checks.report(x, 1), "b:8(20000)\n");
        Checks.due("40 with itself", x.join(1, 1), 2);
        Checks.due("40 twice", Checks.report(x, 1), "b:8(20000)8(20000)\n");
        Checks.due("40 nothing behind", x.join(0, 2), 2);
        Checks.due("40 behind nothing", x.join(2, 0), 2);
        Checks.due("40 two more make 60", x.join(3, 1), 5);
        Checks.due("40 nothing behind 60", Checks.added(x, "e"), -101);
        Checks.due("40 refused", x.join(3, 0), -103);
        Checks.due("40 refused, with itself", x.join(3, 3), -103);
        NineWays y = Checks.of("pack 0 4;row a;fill a 60 1;row b;row c 1;row d;fill d 31 1;");
        Checks.due("40 nothing behind a full one", y.join(0, 1), 3);
        Checks.due("40 one behind a full one", y.join(0, 2), -103);
        Checks.due("40 31 twice", y.join(3, 3), -103);
        Checks.due("40 one less", y.remove(3, 0), 2);
        Checks.due("40 30 twice", y.join(3, 3), 3);
        Checks.badIndex("40 no row", () -> x.join(4, 0));
        Checks.badIndex("40 no other row", () -> x.join(0, 4));
        Checks.badIndex("40 row below", () -> x.join(-1, 0));
        Checks.badIndex("40 other row below, ahead of a refusal", () -> x.join(3, -1));
    }

    private static void promises41to43() {
        NineWays x = Checks.of("pack 0 4;row a 1 5;");
        Checks.due("41 the one before", x.setRule(2), 0);
        Checks.due("41 the one before then", x.setRule(1), 2);
        Checks.due("41 the same", x.setRule(1), 1);
        Checks.due("41 it is set", x.setting(1), 1);
        Checks.badArgument("41 above", () -> x.setRule(3));
        Checks.badArgument("41 below", () -> x.setRule(-1));
        Checks.due("42 the one before", x.setSkip(9), 4);
        Checks.due("42 the one before then", x.setSkip(1), 9);
        Checks.due("42 it is set", x.setting(2), 1);
        Checks.badArgument("42 above", () -> x.setSkip(10));
        Checks.badArgument("42 below", () -> x.setSkip(0));
        Checks.due("43 the one before", x.setPrice(8, 99), 1);
        Checks.due("43 the one before then", x.setPrice(8, 0), 99);
        Checks.due("43 it is set", x.way(8, 2), 0);
        Checks.due("43 another one is not", x.way(7, 2), 1);
        Checks.due("43 another way", x.setPrice(0, 7), 1);
        Checks.badIndex("43 way above", () -> x.setPrice(9, 1));
        Checks.badIndex("43 way below", () -> x.setPrice(-1, 1));
        Checks.badIndex("43 both", () -> x.setPrice(9, 100));
        Checks.badArgument("43 above", () -> x.setPrice(0, 100));
        Checks.badArgument("43 below", () -> x.setPrice(0, -1));
        Checks.due("43 the words by rule 1", x.row(0, 1), 1);
        x.setRule(2);
        Checks.due("41 the words follow the rule", x.row(0, 1), 2);
        x.setPrice(8, 1);
        Checks.due("43 the words follow the price", x.row(0, 1), 1);
        Checks.due("45 each is an act", x.account(0), 10);
        NineWays y = Checks.of("pack 2 4;row a 1 5;row b 0;");
        y.put(0, 1, 3);
        y.setSkip(2);
        y.append(0, 1);
        y.join(0, 1);
        y.setRule(1);
        y.remove(0, 0);
        y.insert(0, 2, 7);
        Checks.due("41 to 43, each changes nothing else", Checks.all(y), "1 2 1 1 1 1 1 1 1 1 1 a:2(3,1,7,0)\n b:0(0)\n");
        y.setRule(2);
        y.setSkip(1);
        y.join(1, 0);
        Checks.due("40 changes nothing else", y.setting(1), 2);
    }

    private static void promise44() {
        NineWays x = new NineWays();
        Checks.due("44 none", x.refusal(), 0);
        x.add();
        Checks.due("44 102", x.refusal(), 102);
        Checks.run(x, "new a;new b;new c;new d;");
        Checks.due("44 it stays", x.refusal(), 102);
        Checks.added(x, "e");
        Checks.due("44 101", x.refusal(), 101);
        Checks.run(x, "repeat 4(repeat 20(add a 1;););");
        Checks.due("44 a script that did its forty", x.refusal(), 101);
        Checks.run(x, "repeat 4(repeat 20(add a 1;););");
        Checks.due("44 103 in a script", x.refusal(), 103);
        Checks.load(x, "pack 0 4;");
        x.readText();
        Checks.due("44 it stays with another text", x.refusal(), 103);
        x.undo();
        x.save();
        x.restore();
        Checks.due("44 it stays all the same", x.refusal(), 103);
    }

    private static void promise45() {
        NineWays x = Checks.of("pack 0 4;row a 1;row b;");
        Checks.due("45 a text is no act", x.account(0), 0);
        x.append(0, 2);
        Checks.due("45 an act", x.account(0), 1);
        x.setSkip(4);
        Checks.due("45 an act without a difference", x.account(0), 2);
        Checks.outcome(() -> x.append(0, -1));
        x.find();
        x.report(0);
        x.save();
        Checks.due("45 no acts", x.account(0), 2);
        Checks.run(x, "repeat 3(add b 1;);skip 2;");
        Checks.due("45 each command of a script", x.account(0), 6);
        Checks.run(x, "");
        Checks.due("45 not runScript() itself", x.account(0), 6);
        Checks.due("45 no refusals", x.account(1), 0);
        x.add();
        Checks.due("45 a refusal", x.account(1), 1);
        Checks.run(x, "new c;new a;new d;");
        Checks.due("45 a refusal in a script", x.account(1), 2);
        Checks.due("45 it is no act", x.account(0), 7);
        Checks.run(x, "add x 1;");
        Checks.run(x, "put a 9 1;");
        Checks.due("45 others are no refusals", x.account(1), 2);
        Checks.due("45 nothing is undone", x.account(2), 0);
        x.undo();
        x.undo();
        Checks.due("45 undone", x.account(2), 2);
        Checks.due("45 what is undone stays counted", x.account(0), 7);
        Checks.due("45 refusals stay counted", x.account(1), 2);
        x.restore();
        x.undo();
        Checks.due("45 nothing to undo", x.account(2), 2);
        x.read(0, 0);
        Checks.due("45 words", x.account(3), 1);
        x.wordsBy(0, 1);
        x.wordsIf(0, 0, 3);
        x.bestRemove(0);
        x.bestSkip(0);
        x.readsFor(0, 0);
        x.wordSum(0, 0);
        x.entrySum(0, 0);
        x.gap();
        x.report(0);
        Checks.due("45 none of these reads", x.account(3), 1);
        Checks.badArgument("45 above", () -> x.account(4));
        Checks.badArgument("45 below", () -> x.account(-1));
    }

    private static void promise46() {
        NineWays x = Checks.of("pack 0 4;row a;");
        Checks.due("46 nothing", x.undo(), -1);
        String[] states = new String[9];
        for (int k = 0; k < 9; k++) {
            states[k] = Checks.all(x);
            x.append(0, k * 1000);
        }
        for (int left = 5; left >= 0; left--) {
            Checks.due("46 left", x.undo(), left);
            Checks.due("46 as before", Checks.all(x), states[left + 3]);
        }
        Checks.due("46 the latest 6 are kept", x.undo(), -1);
        Checks.due("46 nothing changes", Checks.all(x), states[3]);
        Checks.due("45 undone changes", x.account(2), 6);

        NineWays y = Checks.of("pack 0 4;row a 1;row b 2 3;");
        String before = Checks.all(y);
        Checks.added(y, "c");
        y.put(0, 0, 9);
        y.insert(0, 0, 9);
        y.remove(1, 0);
        y.join(0, 1);
        y.setRule(1);
        for (int left = 5; left >= 0; left--) {
            Checks.due("46 left of six kinds", y.undo(), left);
        }
        Checks.due("46 as before six kinds", Checks.all(y), before);
        y.setSkip(2);
        y.setPrice(0, 2);
        Checks.run(y, "add a 1;rule 2;new d;");
        Checks.due("46 a script is one", y.undo(), 2);
        Checks.due("46 all of it", Checks.all(y), before.replace("0 4 1", "0 2 2"));
        Checks.run(y, "");
        Checks.due("46 an empty script is one", y.undo(), 2);
        Checks.run(y, "skip 0;");
        Checks.due("46 a script that did nothing is one", y.undo(), 2);
        y.setSkip(2);
        Checks.due("46 so is a change without a difference", y.undo(), 2);
        y.add();
        Checks.outcome(() -> y.append(0, -1));
        Checks.load(y, "a bad script");
        Checks.outcome(y::runScript);
        Checks.due("46 refusals and exceptions are none", y.undo(), 1);
        Checks.due("46 the next", y.undo(), 0);
        Checks.due("46 as before all", Checks.all(y), before);
        staysWithUndo();
        undoneAndDoneAgain();
    }

    private static void staysWithUndo() {
        NineWays x = Checks.of("pack 0 4;row a 1;");
        x.append(0, 2);
        x.save();
        x.append(0, 3);
        x.report(0);
        Checks.load(x, "bad");
        Checks.outcome(x::runScript);
        Checks.load(x, "buffer");
        x.undo();
        x.undo();
        Checks.due("46 the buffer stays", x.truncate(6), 6);
        Checks.due("46 the error stays", x.errorCode(), 1);
        Checks.due("46 its position stays", x.errorPosition(), 0);
        Checks.due("46 the report stays", x.reportByte(8), '3');
        Checks.due("46 what is saved stays", x.restore(), 2);
    }

    private static void undoneAndDoneAgain() {
        NineWays x = Checks.of("pack 0 4;row a;");
        for (int k = 1; k <= 8; k++) {
            x.append(0, k);
        }
        x.undo();
        x.undo();
        x.append(0, 20);
        x.append(0, 21);
        x.append(0, 22);
        Checks.due("46 six again", x.undo(), 5);
        Checks.due("46 numbers", Checks.report(x, 0), "a:4(1,2,3,4,5)4(6,20,21)\n");
        for (int k = 0; k < 5; k++) {
            x.undo();
        }
        Checks.due("46 the oldest that is kept", Checks.report(x, 0), "a:1(1,2,3)\n");
        Checks.due("46 and none before", x.undo(), -1);
    }

    private static void early(String script, int done, int refusals, String rows) {
        NineWays x = Checks.of("pack 0 4;row a 1;row b;fill b 60 1;row c 5;");
        Checks.due("script \"" + script + "\"", Checks.run(x, script), done);
        Checks.due("refusals of \"" + script + "\"", x.account(1), refusals);
        Checks.due("acts of \"" + script + "\"", x.account(0), done);
        String all = Checks.report(x, 0).trim() + " " + Checks.report(x, 2).trim();
        Checks.due("rows by \"" + script + "\"", all, rows);
    }

    private static void scriptsThatEndEarly() {
        early("add a 2;add d 1;add a 3;", 1, 0, "a:1(1,2) c:2(5)");
        early("join a d;add a 3;", 0, 0, "a:0(1) c:2(5)");
        early("join d a;add a 3;", 0, 0, "a:0(1) c:2(5)");
        early("put d 0 1;add a 3;", 0, 0, "a:0(1) c:2(5)");
        early("insert d 0 1;add a 3;", 0, 0, "a:0(1) c:2(5)");
        early("remove d 0;add a 3;", 0, 0, "a:0(1) c:2(5)");
        early("remove c 0;remove c 0;add a 3;", 1, 0, "a:0(1) c:");
        early("add a 268435455;add a 268435456;add a 3;", 1, 0, "a:8(1)8(268435455) c:2(5)");
        early("add b 999999999;add a 3;", 0, 0, "a:0(1) c:2(5)");
        early("add b 1;add a 3;", 0, 1, "a:0(1) c:2(5)");
        early("insert b 60 1;add a 3;", 0, 1, "a:0(1) c:2(5)");
        early("insert b 61 1;add a 3;", 0, 0, "a:0(1) c:2(5)");
        early("insert a 1 2;insert a 0 3;insert a 4 1;", 2, 0, "a:1(3,1,2) c:2(5)");
        early("put b 60 1;add a 3;", 0, 0, "a:0(1) c:2(5)");
        early("put a 0 2;put a 1 3;", 1, 0, "a:1(2) c:2(5)");
        early("join b a;add a 3;", 0, 1, "a:0(1) c:2(5)");
        early("join a b;add a 3;", 0, 1, "a:0(1) c:2(5)");
        early("join b d;add a 3;", 0, 0, "a:0(1) c:2(5)");
        early("join c c;join a c;", 2, 0, "a:2(1,5,5) c:2(5,5)");
        early("new d;join d a;join a d;new e;add a 3;", 3, 1, "a:0(1,1) c:2(5)");
        early("new a;add a 3;", 0, 1, "a:0(1) c:2(5)");
        early("rule 2;rule 3;add a 3;", 1, 0, "a:0(1) c:2(5)");
        early("skip 9;skip 10;add a 3;", 1, 0, "a:0(1) c:2(5)");
        early("skip 0;add a 3;", 0, 0, "a:0(1) c:2(5)");
        early("price 8 99;price 9 1;add a 3;", 1, 0, "a:0(1) c:2(5)");
        early("price 8 100;add a 3;", 0, 0, "a:0(1) c:2(5)");
        early("repeat 2(add c 1;remove a 0;);add c 2;", 3, 0, "a: c:2(5,1,1)");
        early("repeat 2(repeat 2(remove a 0;add c 1;););add c 2;", 2, 0, "a: c:2(5,1)");
        early("repeat 20(repeat 2(rule 0;););add a 3;", 40, 0, "a:0(1) c:2(5)");
        early("repeat 13(repeat 3(rule 0;););add a 3;add a 4;", 40, 0, "a:1(1,3) c:2(5)");
        early("repeat 13(repeat 3(rule 0;););add b 1;add a 3;", 39, 1, "a:0(1) c:2(5)");
        early("repeat 10(add a 2;remove a 1;);repeat 20(skip 3;);add b 1;", 40, 0, "a:0(1) c:2(5)");
        early("add new 1;", 0, 0, "a:0(1) c:2(5)");
        NineWays x = Checks.of("pack 0 4;");
        Checks.due("names that are words of commands", Checks.run(x, "new new;add new 1;new repeat;join repeat new;"), 4);
        Checks.due("their rows", Checks.all(x), "0 4 1 1 1 1 1 1 1 1 1 new:0(1)\n repeat:0(1)\n");
    }

    private static void promises47and48() {
        NineWays x = Checks.of("pack 0 4;row ab 1 5 268435455 0 10 100;row zzzzzzzz;row c;fill c 60 268435455;");
        String want = "ab:7(1,5)8(268435455)5(0,10,100)\n";
        Checks.due("47 bytes", x.report(0), want.length());
        for (int i = 0; i < want.length(); i++) {
            Checks.due("48 byte " + i, x.reportByte(i), want.charAt(i));
        }
        Checks.badIndex("48 behind", () -> x.reportByte(want.length()));
        Checks.badIndex("48 ahead", () -> x.reportByte(-1));
        Checks.badIndex("48 far", () -> x.reportByte(Integer.MIN_VALUE));
        Checks.badIndex("47 no row", () -> x.report(3));
        Checks.badIndex("47 row below", () -> x.report(-1));
        Checks.due("47 an exception leaves the report", x.reportByte(0), 'a');
        x.append(0, 1);
        Checks.badIndex("48 a change leaves the report", () -> x.reportByte(want.length()));
        Checks.due("47 without words", Checks.report(x, 1), "zzzzzzzz:\n");
        Checks.badIndex("47 in place of the one before", () -> x.reportByte(10));
        Checks.due("47 the longest of a row", Checks.report(x, 2), "c:" + "8(268435455)".repeat(60) + "\n");
        Checks.due("47 digits", Checks.report(Checks.of("pack 0 4;row a 100000000 99999999 10000000;"), 0),
            "a:8(100000000)8(99999999)8(10000000)\n");
    }

    private static void promises49and50() {
        NineWays x = Checks.of("pack 2 7;row a 1 5;price 8 0;row b 3;");
        Checks.badState("50 nothing is saved", x::restore);
        x.append(1, 4);
        String before = Checks.all(x);
        x.report(1);
        Checks.due("49 numbers", x.save(), 4);
        Checks.due("49 undo stays", x.undo(), 0);
        x.setRule(0);
        x.setSkip(1);
        x.setPrice(8, 9);
        Checks.run(x, "new c;new d;add c 1;remove a 0;");
        Checks.load(x, "zoe 1");
        Checks.outcome(x::runScript);
        Checks.load(x, "zoe");
        x.add();
        Checks.due("50 numbers", x.restore(), 4);
        Checks.due("50 undo is forgotten", x.undo(), -1);
        Checks.due("50 the buffer stays", x.truncate(3), 3);
        Checks.due("50 the error stays", x.errorCode(), 1);
        Checks.due("50 acts stay", x.account(0), 8);
        Checks.due("50 the refusal stays", x.refusal(), 101);
        Checks.due("50 the report stays", x.reportByte(0), 'b');
        Checks.due("50 all", Checks.all(x), before);
        x.remove(0, 0);
        Checks.due("50 it stays saved", x.restore(), 4);
        Checks.due("50 all again", Checks.all(x), before);
        x.remove(0, 0);
        Checks.due("49 in place of what was saved", x.save(), 3);
        x.remove(0, 0);
        Checks.due("50 the latest", x.restore(), 3);
        NineWays y = new NineWays();
        Checks.due("49 without rows", y.save(), 0);
        Checks.added(y, "a");
        Checks.due("50 without rows", y.restore(), 0);
        Checks.due("50 no rows", y.setting(0), 0);
    }
}
