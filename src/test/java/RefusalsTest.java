import java.util.ArrayList;
import java.util.List;

/** Section 6 of the document: refusals, accounts, undo, exceptions; each sentence from both sides of its boundary. */
public final class RefusalsTest {
    private static final int MOST = 268435455;
    private static final int LEAST_INT = Integer.MIN_VALUE;
    private static final int MOST_INT = Integer.MAX_VALUE;

    private interface Call {
        long answer(NineWays x);
    }

    private interface Numbered {
        long answer(NineWays x, int number);
    }

    private record Named(String name, Numbered call) {
    }

    private record Throwing(String name, String exception, Call call) {
    }

    public static void main(String[] args) {
        reasons();
        refusalsChangeNothing();
        accounts();
        wordsRead();
        whatCanBeUndone();
        latestSix();
        whatUndoLeaves();
        whatForgets();
        severalExceptions();
        exceptionsChangeNothing();
        existingOnes();
        whatWouldBe();
        Checks.end("RefusalsTest");
    }

    private static String bufferName(NineWays x, int length) {
        return "buffer of " + length + ": " + Checks.outcome(() -> x.truncate(length)) + ", " + Checks.outcome(() -> x.truncate(length + 1));
    }

    private static String reportOf(NineWays x) {
        StringBuilder text = new StringBuilder();
        for (int k = 0; k < 740; k++) {
            int i = k;
            if (Checks.outcome(() -> x.reportByte(i)).equals("answers")) {
                text.append((char) x.reportByte(i));
            }
        }
        return text.toString();
    }

    /** The rows, RULE, SKIP and prices, by calls that leave the report alone. */
    private static String state(NineWays x) {
        StringBuilder text = new StringBuilder();
        for (int what = 0; what < 6; what++) {
            text.append(x.setting(what)).append(' ');
        }
        for (int way = 0; way < 9; way++) {
            text.append(x.way(way, 2)).append(' ');
        }
        for (int row = 0; row < x.setting(0); row++) {
            for (int i = 0; i < 8; i++) {
                text.append(x.letter(row, i)).append(' ');
            }
            for (int word = 0; word < x.row(row, 1); word++) {
                text.append(x.word(row, word)).append('/').append(x.wordPart(row, word, 1)).append(' ');
            }
        }
        return text.toString();
    }

    /** All that answers tell without a change. */
    private static String whole(NineWays x) {
        StringBuilder text = new StringBuilder(state(x));
        text.append("error ").append(x.errorCode()).append(" at ").append(x.errorPosition());
        text.append(", accounts");
        for (int what = 0; what < 4; what++) {
            text.append(' ').append(x.account(what));
        }
        return text.append(", refusal ").append(x.refusal()).append(", found ").append(x.find()).append(", report ").append(reportOf(x)).toString();
    }

    /** An object in which nothing is as in a new one; its buffer is the name of row 1. */
    private static NineWays used() {
        NineWays x = Checks.of("pack 2 3;price 8 0;price 0 7;row a 1 5 9000;row bc 20000 2;");
        x.save();
        Checks.load(x, "a");
        x.add();
        x.append(0, 3);
        x.setSkip(2);
        x.read(0, 3);
        x.setSkip(3);
        x.undo();
        x.report(1);
        Checks.load(x, "skip 1;skip");
        Checks.outcome(x::runScript);
        Checks.load(x, "bc");
        return x;
    }

    private static void reasons() {
        Checks.says("A change that is refused returns 0 less the reason: 101 there are 4 rows, 102 the new name is none, or a row has it, 103 the row would have more than 60 numbers; if several apply, the lowest one.");
        NineWays x = Checks.of("pack 0 4;row a;row b;fill b 60 1;row c;fill c 59 1;");
        Checks.due("a name that a row has", Checks.added(x, "a"), -102);
        Checks.due("no name", Checks.added(x, ""), -102);
        Checks.due("no name, but a number", Checks.added(x, "7"), -102);
        Checks.due("a longer name", Checks.added(x, "aa"), 3);
        Checks.due("four rows", Checks.added(x, "d"), -101);
        Checks.due("four rows, and no name", Checks.added(x, ""), -101);
        Checks.due("four rows, and a name that a row has", Checks.added(x, "a"), -101);
        Checks.due("60 numbers by append()", x.append(2, 1), 3);
        Checks.due("61 numbers by append()", x.append(1, 1), -103);
        Checks.due("61 numbers by insert()", x.insert(1, 60, 1), -103);
        Checks.due("60 numbers by join()", x.join(0, 1), 3);
        Checks.due("60 numbers and none", x.join(1, 3), 3);
        Checks.due("120 numbers", x.join(1, 1), -103);
        x.append(3, 1);
        Checks.due("61 numbers by join()", x.join(3, 1), -103);
        Checks.due("none of these can be refused", x.put(1, 0, 2) + x.remove(1, 59), 3 + 3);
    }

    private static void refusalsChangeNothing() {
        Checks.says("A refusal changes nothing but accounts and the latest refusal.");
        NineWays x = Checks.of("pack 2 3;price 8 0;row a 1 5 9000;row b;fill b 60 2;row c;");
        x.append(0, 1);
        x.save();
        x.report(0);
        Checks.load(x, "oops");
        Checks.outcome(x::runScript);
        Checks.load(x, "b");
        Call[] refused = {NineWays::add, y -> y.append(1, 0), y -> y.insert(1, 0, 0), y -> y.join(1, 0), y -> y.join(0, 1), y -> y.join(1, 1)};
        int[] reasons = {102, 103, 103, 103, 103, 103};
        String before = state(x);
        for (int k = 0; k < refused.length; k++) {
            Checks.due("call " + k, refused[k].answer(x), -reasons[k]);
            Checks.due("refusal of call " + k, x.refusal(), reasons[k]);
            Checks.due("refusals by call " + k, x.account(1), k + 1);
            Checks.due("acts by call " + k, x.account(0), 1);
            Checks.due("rows by call " + k, state(x), before);
            Checks.due("report by call " + k, reportOf(x).length(), x.report(0));
            Checks.due("the buffer by call " + k, x.find(), 1);
            Checks.due("the error by call " + k, x.errorCode(), 1);
        }
        Checks.due("they can't be undone", x.undo(), 0);
        Checks.due("the change before is undone", x.row(0, 0), 3);
        Checks.due("what is saved", x.restore(), 64);
    }

    private static void accounts() {
        Checks.says("An account counts what was done since the object was made; what is undone stays counted");
        NineWays x = Checks.of("pack 0 4;row a;");
        x.append(0, 1);
        x.read(0, 0);
        x.add();
        x.undo();
        Checks.load(x, "pack 0 4;row a 5;");
        x.readText();
        x.save();
        x.append(0, 1);
        x.restore();
        int[] wants = {2, 1, 1, 1};
        for (int what = 0; what < 4; what++) {
            Checks.due("account " + what, x.account(what), wants[what]);
        }

        Checks.says("acts (changes that were done; each command of a script, too, but not runScript() itself)");
        NineWays y = Checks.of("pack 0 4;row a;");
        Call[] changes = {z -> Checks.added(z, "b"), z -> z.append(0, 1), z -> z.put(0, 0, 2), z -> z.insert(0, 0, 3), z -> z.join(0, 0),
            z -> z.remove(0, 0), z -> z.setRule(0), z -> z.setSkip(4), z -> z.setPrice(0, 1)};
        for (int k = 0; k < changes.length; k++) {
            changes[k].answer(y);
            Checks.due("act " + k, y.account(0), k + 1);
        }
        Checks.due("a script", Checks.run(y, "new c;add c 1;put c 0 1;insert c 0 1;join c c;remove c 0;rule 0;skip 4;price 0 1;"), 9);
        Checks.due("its commands", y.account(0), 18);
        Checks.run(y, "");
        Checks.due("a script without commands", y.account(0), 18);
        Checks.run(y, "add c 1;add d 1;");
        Checks.due("a script that ends early", y.account(0), 19);
        Checks.run(y, "add c 1;new a;");
        Checks.due("a script that is refused", y.account(0), 20);
        Checks.outcome(() -> y.append(0, -1));
        Checks.outcome(() -> y.append(9, 1));
        y.add();
        y.undo();
        y.save();
        y.restore();
        y.report(0);
        Checks.due("these are no acts", y.account(0), 20);

        Checks.says("refusals (in scripts, too)");
        Checks.due("of both", y.account(1), 2);
        Checks.run(y, "add a 268435456;");
        Checks.run(y, "add zz 1;");
        Checks.due("what ends a script is not always one", y.account(1), 2);
        Checks.run(y, "repeat 20(new a;);");
        Checks.due("a script has one at most", y.account(1), 3);

        Checks.says("undone changes (calls of undo() that undo)");
        NineWays z = Checks.of("pack 0 4;row a;");
        z.undo();
        Checks.due("nothing to undo", z.account(2), 0);
        z.append(0, 1);
        Checks.run(z, "add a 2;add a 3;");
        z.undo();
        Checks.due("a script is one", z.account(2), 1);
        z.undo();
        z.undo();
        Checks.due("two", z.account(2), 2);
    }

    private static void wordsRead() {
        Checks.says("words that were read (by read(), sum(), first() and many(), as section 3 tells; a method that throws reads none).");
        NineWays x = Checks.of("pack 0 2;row a 20000 20001 20002 20003;");
        Checks.due("none at first", x.account(3), 0);
        x.read(0, 3);
        Checks.due("read()", x.account(3), 2);
        x.sum(0, 1, 4);
        Checks.due("sum()", x.account(3), 2 + 1 + 2);
        x.first(0, 20002);
        Checks.due("first()", x.account(3), 5 + 3);
        x.many(0, 20002);
        Checks.due("many()", x.account(3), 8 + 4);
        Call[] none = {y -> y.readsFor(0, 3), y -> y.greatest(0), y -> y.wordSum(0, 0), y -> y.entrySum(0, 1), y -> y.gap(), y -> y.report(0),
            y -> (long) y.filled(), y -> (long) y.meanHeld(0), y -> y.bestSkip(0), y -> y.row(0, 5), y -> y.word(0, 0), y -> y.remove(0, 0)};
        for (int k = 0; k < none.length; k++) {
            none[k].answer(x);
            Checks.due("another one, " + k, x.account(3), 12);
        }
        Call[] throwing = {y -> y.read(0, 3), y -> y.read(0, -1), y -> y.read(1, 0), y -> y.sum(0, 0, 4), y -> y.sum(0, 2, 1), y -> y.sum(0, -1, 3),
            y -> y.sum(1, 0, 0), y -> y.first(1, 20001), y -> y.many(-1, 20001)};
        for (int k = 0; k < throwing.length; k++) {
            Call call = throwing[k];
            Checks.due("it throws, " + k, Checks.outcome(() -> call.answer(x)).equals("answers"), false);
            Checks.due("one that throws, " + k, x.account(3), 12);
        }
    }

    private static void undoes(String what, int left, Call call) {
        NineWays x = Checks.of("pack 1 4;price 3 5;row a 1 2 3;row b 9;row c;fill c 60 1;");
        String before = Checks.all(x);
        Checks.outcome(() -> call.answer(x));
        Checks.due("undo() of " + what, x.undo(), left);
        Checks.due("as before " + what, Checks.all(x), before);
    }

    private static void whatCanBeUndone() {
        Checks.says("Each call of a method below \"changes\" that was done without an exception and was not refused, and each runScript() (as one, also if no command was done), can be undone (also if nothing is different by it), the latest first");
        undoes("add()", 0, x -> Checks.added(x, "d"));
        undoes("append()", 0, x -> x.append(0, 4));
        undoes("put()", 0, x -> x.put(0, 1, 4));
        undoes("insert()", 0, x -> x.insert(0, 1, 4));
        undoes("remove()", 0, x -> x.remove(0, 1));
        undoes("join()", 0, x -> x.join(0, 1));
        undoes("join() with itself", 0, x -> x.join(0, 0));
        undoes("setRule()", 0, x -> x.setRule(2));
        undoes("setSkip()", 0, x -> x.setSkip(5));
        undoes("setPrice()", 0, x -> x.setPrice(3, 6));
        undoes("a script", 0, x -> Checks.run(x, "new d;add d 1;join a d;rule 0;skip 1;price 0 0;remove b 0;"));
        undoes("a script without commands", 0, x -> Checks.run(x, ""));
        undoes("a script that does nothing", 0, x -> Checks.run(x, "repeat 20();"));
        undoes("a script that ends at once", 0, x -> Checks.run(x, "add x 1;"));
        undoes("a script that is refused at once", 0, x -> Checks.run(x, "new a;"));
        undoes("the same number", 0, x -> x.put(0, 1, 2));
        undoes("the same RULE", 0, x -> x.setRule(1));
        undoes("the same SKIP", 0, x -> x.setSkip(4));
        undoes("the same PRICE", 0, x -> x.setPrice(3, 5));
        undoes("a row without numbers behind", 0, x -> Checks.added(x, "d") + x.undo() + x.setSkip(4));
        undoes("a refused add()", -1, x -> Checks.added(x, "a"));
        undoes("a refused append()", -1, x -> x.append(2, 1));
        undoes("a refused insert()", -1, x -> x.insert(2, 0, 1));
        undoes("a refused join()", -1, x -> x.join(0, 2));
        undoes("append() that throws", -1, x -> x.append(0, -1));
        undoes("remove() that throws", -1, x -> x.remove(0, 3));
        undoes("setRule() that throws", -1, x -> x.setRule(3));
        undoes("setSkip() that throws", -1, x -> x.setSkip(0));
        undoes("setPrice() that throws", -1, x -> x.setPrice(0, 100));
        undoes("a script with an error", -1, x -> Checks.run(x, "skip 1;skip"));
        undoes("other calls", -1, x -> x.save() + x.report(0) + x.read(0, 0) + x.undo() + x.find() + x.bestRemove(0));
        NineWays y = Checks.of("pack 0 4;row a;");
        y.append(0, 1);
        Checks.run(y, "add a 2;add a 3;");
        y.append(0, 4);
        Checks.due("the latest", y.undo(), 2);
        Checks.due("its number", Checks.report(y, 0), "a:1(1,2,3)\n");
        Checks.due("the latest then", y.undo(), 1);
        Checks.due("its numbers", Checks.report(y, 0), "a:0(1)\n");
        Checks.due("the first", y.undo(), 0);
        Checks.due("none", y.undo(), -1);
    }

    private static void latestSix() {
        Checks.says("the latest 6 of them are kept");
        for (int changes = 0; changes <= 13; changes++) {
            NineWays x = Checks.of("pack 0 4;row a;");
            for (int k = 1; k <= changes; k++) {
                x.append(0, k);
            }
            int kept = Math.min(changes, 6);
            for (int left = kept - 1; left >= 0; left--) {
                Checks.due("left of " + changes, x.undo(), left);
            }
            Checks.due("no more of " + changes, x.undo(), -1);
            Checks.due("numbers then of " + changes, x.row(0, 0), changes - kept);
        }
        NineWays x = Checks.of("pack 0 4;row a;");
        for (int k = 0; k < 7; k++) {
            Checks.run(x, "add a 1;add a 1;");
        }
        for (int k = 0; k < 7; k++) {
            x.undo();
        }
        Checks.due("scripts, too", x.row(0, 0), 2);
    }

    private static void whatUndoLeaves() {
        Checks.says("all is as before it then but the report, the buffer, the error, accounts, the latest refusal and what is saved.");
        NineWays x = Checks.of("pack 0 4;row a 1;row b;fill b 60 1;");
        Checks.added(x, "c");
        Checks.load(x, "a");
        x.append(0, 2);
        x.save();
        x.report(0);
        x.append(1, 2);
        x.read(0, 1);
        Checks.load(x, "skip 1;oops;");
        Checks.outcome(x::runScript);
        Checks.load(x, "b");
        int[] accounts = {2, 1, 0, 1};
        for (int undone = 1; undone <= 2; undone++) {
            Checks.due("undo()", x.undo(), 2 - undone);
            Checks.due("the report", reportOf(x), "a:1(1,2)\n");
            Checks.due("the buffer", x.find() + " " + bufferName(x, 1), "1 buffer of 1: answers, IllegalArgumentException");
            Checks.due("the error", x.errorCode() + " at " + x.errorPosition(), "1 at 7");
            accounts[2] = undone;
            for (int what = 0; what < 4; what++) {
                Checks.due("account " + what, x.account(what), accounts[what]);
            }
            Checks.due("the latest refusal", x.refusal(), 103);
            Checks.due("the rows", x.setting(0), 4 - undone);
        }
        Checks.due("the buffer that add() emptied stays as it is then", x.truncate(1), 1);
        Checks.due("what is saved", x.restore(), 62);
        Checks.due("the rows that are saved", x.setting(0), 3);
    }

    private static void whatForgets() {
        Checks.says("readText() and restore() forget them.");
        NineWays x = Checks.of("pack 0 4;row a;");
        Checks.badState("nothing is saved", x::restore);
        x.append(0, 1);
        Checks.badState("nothing is saved yet", x::restore);
        Checks.due("restore() that throws forgets nothing", x.undo(), 0);
        x.append(0, 1);
        Checks.load(x, "pack 3 4;");
        Checks.badArgument("an error", x::readText);
        Checks.due("readText() with an error forgets nothing", x.undo(), 0);
        x.append(0, 1);
        x.save();
        x.append(0, 1);
        Checks.load(x, "pack 0 4;row a;");
        x.readText();
        Checks.due("readText()", x.undo(), -1);
        x.append(0, 1);
        x.restore();
        Checks.due("restore()", x.undo(), -1);
        x.append(0, 1);
        x.append(0, 1);
        Checks.due("what comes behind can be undone", x.undo(), 1);
    }

    private static List<Throwing> throwing() {
        String index = "IndexOutOfBoundsException";
        String argument = "IllegalArgumentException";
        List<Throwing> all = new ArrayList<>();
        all.add(new Throwing("way(9, 4)", index, x -> x.way(9, 4)));
        all.add(new Throwing("row(2, 7)", index, x -> x.row(2, 7)));
        all.add(new Throwing("wordPart(2, 0, 4)", index, x -> x.wordPart(2, 0, 4)));
        all.add(new Throwing("wordPart(0, 60, 4)", index, x -> x.wordPart(0, 60, 4)));
        all.add(new Throwing("sum(2, 1, 0)", index, x -> x.sum(2, 1, 0)));
        all.add(new Throwing("wordsBy(2, 3)", index, x -> x.wordsBy(2, 3)));
        all.add(new Throwing("priceBy(-1, -1)", index, x -> x.priceBy(-1, -1)));
        all.add(new Throwing("wordsIf(2, 0, -1)", index, x -> x.wordsIf(2, 0, -1)));
        all.add(new Throwing("wordsIf(0, 60, -1)", index, x -> x.wordsIf(0, 60, -1)));
        all.add(new Throwing("append(2, -1)", index, x -> x.append(2, -1)));
        all.add(new Throwing("put(2, 0, -1)", index, x -> x.put(2, 0, -1)));
        all.add(new Throwing("put(0, 60, -1)", index, x -> x.put(0, 60, -1)));
        all.add(new Throwing("insert(2, 0, -1)", index, x -> x.insert(2, 0, -1)));
        all.add(new Throwing("insert(0, 61, -1)", index, x -> x.insert(0, 61, -1)));
        all.add(new Throwing("setPrice(9, 100)", index, x -> x.setPrice(9, 100)));
        all.add(new Throwing("truncate(-1)", argument, x -> x.truncate(-1)));
        all.add(new Throwing("truncate(3)", argument, x -> x.truncate(3)));
        all.add(new Throwing("setting(6)", argument, x -> x.setting(6)));
        all.add(new Throwing("letter(2, 0)", index, x -> x.letter(2, 0)));
        all.add(new Throwing("way(0, 4)", argument, x -> x.way(0, 4)));
        all.add(new Throwing("row(0, 7)", argument, x -> x.row(0, 7)));
        all.add(new Throwing("word(0, 60)", index, x -> x.word(0, 60)));
        all.add(new Throwing("wordPart(0, 0, 4)", argument, x -> x.wordPart(0, 0, 4)));
        all.add(new Throwing("wordSum(0, -1)", index, x -> x.wordSum(0, -1)));
        all.add(new Throwing("entryStart(2, 0)", index, x -> x.entryStart(2, 0)));
        all.add(new Throwing("entrySum(-1, 0)", index, x -> x.entrySum(-1, 0)));
        all.add(new Throwing("why(0, 0, 9)", index, x -> x.why(0, 0, 9)));
        all.add(new Throwing("read(0, 60)", index, x -> x.read(0, 60)));
        all.add(new Throwing("sum(0, 0, 61)", argument, x -> x.sum(0, 0, 61)));
        all.add(new Throwing("first(2, 1)", index, x -> x.first(2, 1)));
        all.add(new Throwing("many(2, 1)", index, x -> x.many(2, 1)));
        all.add(new Throwing("readsFor(0, 60)", index, x -> x.readsFor(0, 60)));
        all.add(new Throwing("greatest(2)", index, x -> x.greatest(2)));
        all.add(new Throwing("meanHeld(2)", index, x -> (long) x.meanHeld(2)));
        all.add(new Throwing("wordsBy(0, 3)", argument, x -> x.wordsBy(0, 3)));
        all.add(new Throwing("priceBy(0, 3)", argument, x -> x.priceBy(0, 3)));
        all.add(new Throwing("wordsIf(0, 0, -1)", argument, x -> x.wordsIf(0, 0, -1)));
        all.add(new Throwing("bestRemove(2)", index, x -> x.bestRemove(2)));
        all.add(new Throwing("dearWay(2)", index, x -> x.dearWay(2)));
        all.add(new Throwing("wordsTogether(0, 2)", index, x -> x.wordsTogether(0, 2)));
        all.add(new Throwing("bestSkip(2)", index, x -> x.bestSkip(2)));
        all.add(new Throwing("append(0, -1)", argument, x -> x.append(0, -1)));
        all.add(new Throwing("put(0, 0, 268435456)", argument, x -> x.put(0, 0, MOST + 1)));
        all.add(new Throwing("insert(0, 0, -1)", argument, x -> x.insert(0, 0, -1)));
        all.add(new Throwing("remove(0, 60)", index, x -> x.remove(0, 60)));
        all.add(new Throwing("join(0, 2)", index, x -> x.join(0, 2)));
        all.add(new Throwing("setRule(3)", argument, x -> x.setRule(3)));
        all.add(new Throwing("setSkip(10)", argument, x -> x.setSkip(10)));
        all.add(new Throwing("setPrice(0, 100)", argument, x -> x.setPrice(0, 100)));
        all.add(new Throwing("account(4)", argument, x -> x.account(4)));
        all.add(new Throwing("report(2)", index, x -> x.report(2)));
        all.add(new Throwing("reportByte(-1)", index, x -> x.reportByte(-1)));
        all.add(new Throwing("reportByte(740)", index, x -> x.reportByte(740)));
        return all;
    }

    private static void severalExceptions() {
        Checks.says("If several exceptions apply to a call, the one that is listed first is thrown; exceptions come ahead of refusals.");
        for (Throwing one : throwing()) {
            NineWays x = used();
            Checks.due(one.name, Checks.outcome(() -> one.call.answer(x)), one.exception);
        }
        NineWays full = Checks.of("pack 0 4;row a;fill a 60 1;row b 1;");
        Checks.badArgument("append() to a full row", () -> full.append(0, -1));
        Checks.badArgument("insert() into a full row", () -> full.insert(0, 0, MOST + 1));
        Checks.badIndex("insert() beyond a full row", () -> full.insert(0, 61, 1));
        Checks.badIndex("join() of no row behind a full one", () -> full.join(0, 2));
        Checks.badIndex("join() of a full one behind no row", () -> full.join(-1, 0));
        Checks.due("none of these is a refusal", full.account(1), 0);
    }

    private static void exceptionsChangeNothing() {
        Checks.says("A call that throws an exception changes nothing, unless something else is said.");
        for (Throwing one : throwing()) {
            NineWays x = used();
            String before = whole(x);
            Checks.outcome(() -> one.call.answer(x));
            Checks.due("all behind " + one.name, whole(x), before);
            Checks.due("the buffer behind " + one.name, bufferName(x, 2), "buffer of 2: answers, IllegalArgumentException");
            Checks.due("what can be undone behind " + one.name, x.undo(), 1);
            Checks.due("what is saved behind " + one.name, x.restore(), 5);
        }
        NineWays full = new NineWays();
        Checks.load(full, "a" + " ".repeat(580));
        Checks.badState("feed()", () -> full.feed(0x62626262, 0, 0, 0, 0));
        Checks.badArgument("its buffer", () -> full.truncate(582));
        full.truncate(1);
        Checks.due("its buffer begins as before", full.add(), 0);
        NineWays none = used();
        NineWays fresh = Checks.of("pack 0 4;row a 1;");
        String before = whole(fresh);
        Checks.badState("restore()", fresh::restore);
        Checks.due("all behind restore()", whole(fresh), before);
        Checks.load(none, "bc");
        String ahead = whole(none);
        Checks.load(none, "!");
        Checks.badArgument("runScript()", none::runScript);
        Checks.load(none, "bc");
        Checks.due("readText() and runScript() change the buffer and the error", whole(none), ahead.replace("error 1 at 11", "error 1 at 0"));
    }

    private static List<Named> byRow() {
        List<Named> all = new ArrayList<>();
        all.add(new Named("letter", (x, row) -> x.letter(row, 0)));
        all.add(new Named("row", (x, row) -> x.row(row, 0)));
        all.add(new Named("word", (x, row) -> x.word(row, 0)));
        all.add(new Named("wordPart", (x, row) -> x.wordPart(row, 0, 0)));
        all.add(new Named("wordSum", (x, row) -> x.wordSum(row, 0)));
        all.add(new Named("entryStart", (x, row) -> x.entryStart(row, 0)));
        all.add(new Named("entrySum", (x, row) -> x.entrySum(row, 0)));
        all.add(new Named("why", (x, row) -> x.why(row, 0, 0)));
        all.add(new Named("read", (x, row) -> x.read(row, 0)));
        all.add(new Named("sum", (x, row) -> x.sum(row, 0, 0)));
        all.add(new Named("first", (x, row) -> x.first(row, -1)));
        all.add(new Named("many", (x, row) -> x.many(row, MOST_INT)));
        all.add(new Named("readsFor", (x, row) -> x.readsFor(row, 0)));
        all.add(new Named("greatest", (x, row) -> x.greatest(row)));
        all.add(new Named("meanHeld", (x, row) -> (long) x.meanHeld(row)));
        all.add(new Named("wordsBy", (x, row) -> x.wordsBy(row, 0)));
        all.add(new Named("priceBy", (x, row) -> x.priceBy(row, 0)));
        all.add(new Named("wordsIf", (x, row) -> x.wordsIf(row, 0, 0)));
        all.add(new Named("bestRemove", (x, row) -> x.bestRemove(row)));
        all.add(new Named("dearWay", (x, row) -> x.dearWay(row)));
        all.add(new Named("wordsTogether", (x, row) -> x.wordsTogether(row, 0)));
        all.add(new Named("wordsTogether, other", (x, other) -> x.wordsTogether(0, other)));
        all.add(new Named("bestSkip", (x, row) -> x.bestSkip(row)));
        all.add(new Named("append", (x, row) -> x.append(row, 0)));
        all.add(new Named("put", (x, row) -> x.put(row, 0, 0)));
        all.add(new Named("insert", (x, row) -> x.insert(row, 0, 0)));
        all.add(new Named("remove", (x, row) -> x.remove(row, 0)));
        all.add(new Named("join", (x, row) -> x.join(row, 0)));
        all.add(new Named("join, other", (x, other) -> x.join(0, other)));
        all.add(new Named("report", (x, row) -> x.report(row)));
        return all;
    }

    private static List<Named> byWay() {
        return List.of(new Named("way", (x, way) -> x.way(way, 2)), new Named("why", (x, way) -> x.why(0, 0, way)),
            new Named("setPrice", (x, way) -> x.setPrice(way, 5)));
    }

    private static List<Named> byWord() {
        return List.of(new Named("word", (x, word) -> x.word(0, word)), new Named("wordPart", (x, word) -> x.wordPart(0, word, 0)),
            new Named("wordSum", (x, word) -> x.wordSum(0, word)), new Named("why", (x, word) -> x.why(0, word, 0)));
    }

    private static List<Named> byNumber() {
        return List.of(new Named("read", (x, i) -> x.read(0, i)), new Named("readsFor", (x, i) -> x.readsFor(0, i)),
            new Named("wordsIf", (x, i) -> x.wordsIf(0, i, 0)), new Named("put", (x, i) -> x.put(0, i, 0)),
            new Named("remove", (x, i) -> x.remove(0, i)));
    }

    private static void exist(String what, List<Named> all, int most) {
        int[] none = {-1, most + 1, most + 2, 60, 61, 1 << 16, LEAST_INT, MOST_INT};
        for (Named one : all) {
            for (int number : none) {
                NineWays x = Checks.of("pack 0 4;row a 1 9000 3 20000;row b 20000;");
                Checks.badIndex(one.name + ", " + what + " " + number, () -> one.call.answer(x, number));
            }
            for (int number = 0; number <= most; number++) {
                NineWays x = Checks.of("pack 0 4;row a 1 9000 3 20000;row b 20000;");
                int there = number;
                Checks.due(one.name + ", " + what + " " + number, Checks.outcome(() -> one.call.answer(x, there)), "answers");
            }
        }
    }

    private static void existingOnes() {
        Checks.says("The parameters row, other (a row), way, word (of the row) and i (a number of the row) are numbers of existing ones; otherwise IndexOutOfBoundsException is thrown.");
        exist("row", byRow(), 1);
        exist("way", byWay(), 8);
        // 1 and 9000 are in a word by way 7, the others in one each by way 8
        exist("word", byWord(), 2);
        exist("number", byNumber(), 3);
        for (Named one : byRow()) {
            NineWays x = new NineWays();
            Checks.badIndex(one.name + " without rows", () -> one.call.answer(x, 0));
        }
        for (int k = 0; k < 9; k++) {
            NineWays x = Checks.of("pack 0 4;row a;");
            Named one = k < 4 ? byWord().get(k) : byNumber().get(k - 4);
            Checks.badIndex(one.name + " in a row without numbers", () -> one.call.answer(x, 0));
        }
    }

    private static void whatWouldBe() {
        Checks.says("What would be is worked out without a change, and reads no words.");
        Call[] calls = {x -> x.wordsBy(0, 0), x -> x.wordsBy(0, 1), x -> x.wordsBy(0, 2), x -> x.priceBy(0, 0), x -> x.priceBy(0, 1),
            x -> x.wordsIf(0, 0, 20000), x -> x.wordsIf(0, 2, 20000), x -> x.bestRemove(0), x -> x.dearWay(0), x -> x.wordsTogether(0, 1),
            x -> x.wordsTogether(0, 0), x -> x.bestSkip(0)};
        NineWays x = used();
        String before = whole(x);
        for (int k = 0; k < calls.length; k++) {
            calls[k].answer(x);
            Checks.due("call " + k, whole(x), before);
        }
        Checks.due("what can be undone", x.undo(), 1);
        Checks.due("what is saved", x.restore(), 5);
    }
}
