import java.io.IOException;
import java.io.UncheckedIOException;
import java.nio.file.Files;
import java.nio.file.Path;

/** What the tests of sentences share: the sentence of the document that is tested, and the answers due by it. */
class Bounds {
    static final int BAD = -1, FULL = -2, NONE = -3, STATE = -4, NO_ROW = -9;
    static final int NOTHING = -11, OUTSIDE = -12, OTHER = -13, BELOW = -14, PARTED = -15;
    static final int LEAST = Integer.MIN_VALUE, MOST = Integer.MAX_VALUE;

    interface Ask { int of(LeftUndoes x); }
    interface Maker { LeftUndoes make(); }

    private static final String DOC = document();
    private static final boolean[] QUOTED = new boolean[DOC.length()];
    private static String sentence = "";
    private static int ofThis = 1, sentences, checks, wrong;

    Bounds() { }

    private static String document() {
        try {
            return Files.readString(Path.of("../shared/DOC.md")).replaceAll("\\s+", " ");
        } catch (IOException e) {
            throw new UncheckedIOException(e);
        }
    }

    static void complain(String what) {
        wrong++;
        System.out.println(what);
    }

    /** A sentence ahead of the face. */
    static void about(String quote) {
        quoted(0, DOC.indexOf("## The public face"), "what it is", quote);
    }

    /** A sentence of Terms; the checks behind it are its own. */
    static void terms(String quote) {
        quoted(DOC.indexOf("## Terms"), DOC.indexOf("Ahead of the calls `person`"), "Terms", quote);
    }

    /** A sentence of a promise. */
    static void promise(int n, String quote) {
        int from = DOC.indexOf("## Promise " + n + ":");
        int to = DOC.indexOf("## ", from + 3);
        quoted(from, to, "promise " + n, quote);
    }

    private static void quoted(int from, int to, String where, String quote) {
        if (ofThis == 0) complain("no check of: " + sentence);
        sentence = where + ": " + quote;
        sentences++;
        ofThis = 0;
        int at = from < 0 ? -1 : DOC.indexOf(quote, from);
        if (at < 0 || at + quote.length() > to) {
            complain("the document has no such sentence: " + sentence);
            return;
        }
        for (int k = at; k < at + quote.length(); k++) QUOTED[k] = true;
    }

    static void due(String call, int got, int want) {
        checks++;
        ofThis++;
        if (got != want) complain(sentence + "\n    " + call + " answered " + got + ", due is " + want);
    }

    static void dueAll(String calls, int[] got, int... want) {
        for (int k = 0; k < want.length; k++) due(calls + " [" + k + "]", k < got.length ? got[k] : MOST, want[k]);
        due(calls + " (how many)", got.length, want.length);
    }

    static void dueText(String call, String got, String want) {
        checks++;
        ofThis++;
        if (!got.equals(want)) complain(sentence + "\n    " + call + " answered\n    " + got + ", due is\n    " + want);
    }

    /** The call is refused so, and nothing that can be seen is another than without it. */
    static void refused(String call, Maker maker, Ask ask, int want) {
        LeftUndoes with = maker.make();
        due(call, ask.of(with), want);
        dueText("all that can be seen behind " + call, Sight.of(with), Sight.of(maker.make()));
    }

    /** Whatever it answers, nothing that can be seen is another than without it. */
    static void changesNothing(String call, Maker maker, Ask ask) {
        LeftUndoes with = maker.make();
        ask.of(with);
        dueText("all that can be seen behind " + call, Sight.of(with), Sight.of(maker.make()));
    }

    /** What is asked of each number from one to another one, both with it. */
    static int[] each(int from, int to, java.util.function.IntUnaryOperator ask) {
        int[] answers = new int[Math.max(0, to - from + 1)];
        for (int k = 0; k < answers.length; k++) answers[k] = ask.applyAsInt(from + k);
        return answers;
    }

    static int[] all(int... answers) {
        return answers;
    }

    static LeftUndoes people(int... kindGraceStrength) {
        LeftUndoes x = new LeftUndoes();
        for (int k = 0; k + 2 < kindGraceStrength.length; k += 3) {
            x.person(kindGraceStrength[k], kindGraceStrength[k + 1], kindGraceStrength[k + 2]);
        }
        return x;
    }

    static LeftUndoes years(LeftUndoes x, int n) {
        for (int k = 0; k < n; k++) x.year();
        return x;
    }

    static void feed(LeftUndoes x, String text) {
        for (int at = 0; at < text.length(); at += 8) {
            int n = Math.min(8, text.length() - at);
            long eight = 0;
            for (int k = n - 1; k >= 0; k--) eight = eight << 8 | text.charAt(at + k) & 255;
            x.feed(eight, n);
        }
    }

    static int told(LeftUndoes x, String text) {
        feed(x, text);
        return x.rules();
    }

    static int[] states(LeftUndoes x) {
        return each(0, 3, x::state);
    }

    /** The sets of DEEDS that are OPEN, STAND, are UNDONE, FELL, FAILED. */
    static int[] sets(LeftUndoes x) {
        return each(0, 4, x::standing);
    }

    /** How each DEED is. */
    static int[] hows(LeftUndoes x) {
        return each(0, x.many(2) - 1, d -> x.deedOf(d, 4));
    }

    static int[] traced(LeftUndoes x) {
        return each(0, x.many(6) - 1, x::trace);
    }

    /** A SHEET of bytes. */
    static LeftUndoes bytes(LeftUndoes x, int sheet, int... items) {
        x.sheet(sheet, 0, items.length);
        for (int i = 0; i < items.length; i++) x.write(sheet, i, items[i]);
        return x;
    }

    /** Whether each sentence of Terms and of each promise was tested: what isn't quoted is told. */
    static void complainOfGaps() {
        if (ofThis == 0) complain("no check of: " + sentence);
        String terms = DOC.substring(0, DOC.indexOf("Ahead of the calls `person`"));
        gaps(DOC.indexOf("## Terms") + "## Terms".length(), terms.length(), "Terms");
        for (int n = 1; n <= 56; n++) {
            int from = DOC.indexOf("`: ", DOC.indexOf("## Promise " + n + ":")) + 3;
            gaps(from, DOC.indexOf(n == 56 ? "## Not promised" : "## Promise " + (n + 1) + ":", from), "promise " + n);
        }
    }

    private static void gaps(int from, int to, String where) {
        StringBuilder gap = new StringBuilder();
        for (int k = from; k <= to; k++) {
            if (k < to && !QUOTED[k]) {
                gap.append(DOC.charAt(k));
                continue;
            }
            String bare = gap.toString().replace("```text", "").replace("```", "").replaceAll("======== [123]", "").trim();
            if (!bare.isEmpty()) complain(where + ", not tested: " + bare);
            gap.setLength(0);
        }
    }

    static void end() {
        complainOfGaps();
        if (wrong == 0) System.out.println(checks + " answers are as due by " + sentences + " sentences");
        else System.out.println(wrong + " things are wrong");
        if (wrong != 0) System.exit(1);
    }
}
