import java.io.IOException;
import java.nio.file.Files;
import java.nio.file.Path;
import java.util.BitSet;
import java.util.LinkedHashMap;
import java.util.Map;
import java.util.function.IntPredicate;
import java.util.function.ToLongFunction;
import java.util.regex.Matcher;
import java.util.regex.Pattern;

/**
 * Answers that are due by sentences of the document: each test says by which one it asks, and in the end every word
 * of the Terms and of the promises must have been said.
 */
final class Bounds {
    private static final Pattern WORD = Pattern.compile("\\w+");
    /** What is no sentence: the declaration of a promise's call (FaceTest asks it), and where parts begin. */
    private static final Pattern NO_SENTENCE = Pattern.compile("\\A\n\n`[^`]+`: |```(text)?|==== \\d\\.");
    private static final int[] FAR_OFF = {Integer.MIN_VALUE, Integer.MIN_VALUE + 1, Integer.MAX_VALUE};

    private final Map<String, String> parts = new LinkedHashMap<>();
    private final Map<String, BitSet> said = new LinkedHashMap<>();
    private String sentence = "";
    private int sentences = 0;
    private int askedBySentence = 1;
    private int asked = 0;
    private int wrong = 0;

    /** Reads the document's parts: "Terms" and "Promise 1" to "Promise 31". */
    Bounds(Path document) throws IOException {
        for (String part : Files.readString(document).split("\n## ")) {
            String heading = part.lines().findFirst().orElse("");
            if (heading.equals("Terms") || heading.startsWith("Promise ")) {
                String name = heading.split(":")[0];
                parts.put(name, NO_SENTENCE.matcher(part.substring(heading.length())).replaceAll(" "));
                said.put(name, new BitSet());
            }
        }
    }

    private void complain(String what) {
        wrong++;
        System.out.println("BoundsTest: " + what);
    }

    /** What is asked next is due by these words, which stand in that part of the document once. */
    void says(String part, String words) {
        endSentence();
        sentence = part + ", \"" + words + "\"";
        sentences++;
        askedBySentence = 0;
        String text = parts.getOrDefault(part, "");
        int at = text.indexOf(words);
        if (words.isEmpty() || at < 0 || text.indexOf(words, at + 1) >= 0) {
            complain(sentence + " does not stand in the document once");
            return;
        }
        said.get(part).set(at, at + words.length());
    }

    private void endSentence() {
        if (askedBySentence == 0) {
            complain(sentence + " has no test");
        }
    }

    void is(String call, long got, long want) {
        asked++;
        askedBySentence++;
        if (got != want) {
            complain(sentence + ": " + call + " answered " + got + ", due is " + want);
        }
    }

    void is(String call, boolean got, boolean want) {
        is(call, got ? 1 : 0, want ? 1 : 0);
    }

    void same(String call, String got, String want) {
        asked++;
        askedBySentence++;
        if (!got.equals(want)) {
            complain(sentence + ": " + call + "\n  stands: " + got + "\n  due is: " + want);
        }
    }

    /** Each number from the least to the most is taken, none beyond them is. */
    void range(String call, int least, int most, IntPredicate taken) {
        for (int n = least; n <= most; n++) {
            is(call + " " + n, taken.test(n), true);
        }
        is(call + " " + (least - 1), taken.test(least - 1), false);
        is(call + " " + (most + 1), taken.test(most + 1), false);
        for (int n : FAR_OFF) {
            is(call + " " + n, taken.test(n), false);
        }
    }

    /** The call, with a full tape, is refused by this answer and leaves all as it was, the tape's bytes, too. */
    void refuses(String call, long answer, ToLongFunction<DraughtWebs> calls) {
        refuses(call, answer, 13, calls);
    }

    /** As above, with so many blocks of twenty bytes on the tape. */
    void refuses(String call, long answer, int blocks, ToLongFunction<DraughtWebs> calls) {
        DraughtWebs x = State.fed(State.rich(), blocks);
        is(call, calls.applyAsLong(x), answer);
        String due = State.withTape(State.fed(State.rich(), blocks), blocks);
        same(call + " changed something", State.withTape(x, blocks), due);
    }

    /** The call, with these bytes on the tape, is answered so and leaves all as it was but the tape, which is empty. */
    void empties(String call, long answer, ToLongFunction<DraughtWebs> calls, int... bytes) {
        DraughtWebs x = Due.feed(State.rich(), bytes);
        is(call, calls.applyAsLong(x), answer);
        is("bytes of the tape behind " + call, x.count(4), 0);
        same(call + " changed something", State.withTape(x, 0), State.withTape(State.rich(), 0));
    }

    void end() {
        endSentence();
        if (parts.size() != 32) {
            complain("the document has " + parts.size() + " parts, due are 32");
        }
        for (String part : parts.keySet()) {
            seekUnsaid(part, parts.get(part), said.get(part));
        }
        System.out.println("BoundsTest: " + sentences + " sentences, " + asked + " answers, " + wrong + " not as due");
        if (wrong != 0) {
            System.exit(1);
        }
    }

    private void seekUnsaid(String part, String text, BitSet saidThere) {
        Matcher word = WORD.matcher(text);
        int at = 0;
        while (at < text.length() && word.find(at)) {
            at = word.end();
            if (saidThere.nextClearBit(word.start()) < at) {
                int next = saidThere.nextSetBit(at);
                at = next < 0 ? text.length() : next;
                complain("no test says, of " + part + ", \"" + text.substring(word.start(), at).strip() + "\"");
            }
        }
    }
}
