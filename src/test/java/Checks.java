import java.io.IOException;
import java.nio.file.Files;
import java.nio.file.Path;
import java.util.ArrayList;
import java.util.List;
import java.util.Objects;

/** What the tests share: comparing answers, and feeding texts. */
final class Checks {
    interface Call {
        long answer();
    }

    private static int made = 0;
    private static int wrong = 0;
    private static final List<String> SENTENCES = new ArrayList<>();
    private static int madeAheadOfSentence = 0;

    private Checks() {
    }

    /** What comes next, up to another sentence, looks at this one of the document. */
    static void says(String sentence) {
        endSentence();
        SENTENCES.add(sentence);
        madeAheadOfSentence = made;
    }

    private static void endSentence() {
        if (!SENTENCES.isEmpty() && made == madeAheadOfSentence) {
            wrong++;
            System.out.println("nothing looks at \"" + latestSentence() + "\"");
        }
    }

    private static String latestSentence() {
        return SENTENCES.get(SENTENCES.size() - 1);
    }

    static void due(String what, Object got, Object want) {
        made++;
        if (!Objects.equals(got, want)) {
            wrong++;
            String sentence = SENTENCES.isEmpty() ? "" : "\"" + latestSentence() + "\": ";
            System.out.println(sentence + what + ": answered " + got + ", due is " + want);
        }
    }

    static void due(String what, long got, long want) {
        due(what, (Object) got, (Object) want);
    }

    /** The simple name of the exception that the call throws, or "answers". */
    static String outcome(Call call) {
        try {
            call.answer();
            return "answers";
        } catch (RuntimeException e) {
            return e.getClass().getSimpleName();
        }
    }

    static void badIndex(String what, Call call) {
        due(what, outcome(call), "IndexOutOfBoundsException");
    }

    static void badArgument(String what, Call call) {
        due(what, outcome(call), "IllegalArgumentException");
    }

    static void badState(String what, Call call) {
        due(what, outcome(call), "IllegalStateException");
    }

    /** Puts a text in place of the buffer; its characters are bytes. */
    static void load(NineWays x, String text) {
        x.truncate(0);
        for (int at = 0; at < text.length(); at += 20) {
            x.feed(four(text, at), four(text, at + 4), four(text, at + 8), four(text, at + 12), four(text, at + 16));
        }
        x.truncate(text.length());
    }

    private static int four(String text, int at) {
        int bytes = 0;
        for (int i = at; i < at + 4; i++) {
            bytes = (bytes << 8) | (i < text.length() ? text.charAt(i) & 255 : 0);
        }
        return bytes;
    }

    /** A new object that has read a text. */
    static NineWays of(String text) {
        NineWays x = new NineWays();
        load(x, text);
        x.readText();
        return x;
    }

    static int run(NineWays x, String script) {
        load(x, script);
        return x.runScript();
    }

    static int added(NineWays x, String name) {
        load(x, name);
        return x.add();
    }

    /** The whole report of a row, as a text. */
    static String report(NineWays x, int row) {
        int length = x.report(row);
        StringBuilder text = new StringBuilder();
        for (int i = 0; i < length; i++) {
            text.append((char) x.reportByte(i));
        }
        return text.toString();
    }

    /** All that can be saved, undone and told by a text. */
    static String all(NineWays x) {
        StringBuilder text = new StringBuilder();
        text.append(x.setting(1)).append(' ').append(x.setting(2));
        for (int way = 0; way < 9; way++) {
            text.append(' ').append(x.way(way, 2));
        }
        for (int row = 0; row < x.setting(0); row++) {
            text.append(' ').append(report(x, row));
        }
        return text.toString();
    }

    /** "code at position" of the error of a system; "0 at -1" without one. */
    static String systemError(String text) {
        NineWays x = new NineWays();
        load(x, text);
        String outcome = outcome(x::readText);
        return told(x, outcome);
    }

    static String scriptError(String text) {
        NineWays x = new NineWays();
        load(x, text);
        String outcome = outcome(x::runScript);
        return told(x, outcome);
    }

    private static String told(NineWays x, String outcome) {
        String wanted = x.errorCode() == 0 ? "answers" : "IllegalArgumentException";
        if (!outcome.equals(wanted)) {
            return outcome + " with code " + x.errorCode();
        }
        return x.errorCode() + " at " + x.errorPosition();
    }

    // A note alone: the answers that are due do not hang on how the document words them.
    private static void noteSentencesThatAreNot() {
        try {
            String document = folded(Files.readString(Path.of("../shared/DOC.md")));
            for (String sentence : SENTENCES) {
                if (!document.contains(folded(sentence))) {
                    System.out.println("note: the document does not say \"" + sentence + "\"");
                }
            }
        } catch (IOException e) {
            System.out.println("note: the document can't be read");
        }
    }

    private static String folded(String text) {
        return text.replaceAll("\\s+", " ");
    }

    static void end(String test) {
        if (!SENTENCES.isEmpty()) {
            endSentence();
            noteSentencesThatAreNot();
            System.out.println(test + ": " + SENTENCES.size() + " sentences");
        }
        System.out.println(test + ": " + made + " answers, " + wrong + " not as due");
        if (wrong != 0 || made == 0) {
            System.exit(1);
        }
    }
}
