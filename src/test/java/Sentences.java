import java.io.IOException;
import java.io.UncheckedIOException;
import java.nio.file.Files;
import java.nio.file.Path;
import java.util.function.Consumer;
import java.util.function.Supplier;
import java.util.function.ToIntFunction;

/** Ties each check to the sentence of the document that it holds the class to, and sees that none is left out. */
final class Sentences {
    static final Class<IndexOutOfBoundsException> INDEX = IndexOutOfBoundsException.class;
    static final Class<IllegalArgumentException> ARGUMENT = IllegalArgumentException.class;
    static final Class<IllegalStateException> STATE = IllegalStateException.class;

    private static final String DOCUMENT = document();
    private static final boolean[] HELD = new boolean[DOCUMENT.length()];
    private static String now = "before the first sentence: ";
    private static int checks = 1;

    private Sentences() {
    }

    interface Call {
        int of(FountainCues x, int value);
    }

    private static String document() {
        try {
            return Files.readString(Path.of("..", "shared", "DOC.md"));
        } catch (IOException e) {
            throw new UncheckedIOException(e);
        }
    }

    /** The checks behind this call hold the class to this sentence, which must stand in this section. */
    static void hold(String section, String sentence) {
        leave();
        now = section + ", \"" + sentence + "\": ";
        checks = 0;
        int at = DOCUMENT.indexOf(sentence, startOf(section));
        boolean stands = at >= 0 && at + sentence.length() <= endOf(section);
        Checks.due(now + "stands in the document", stands, true);
        for (int i = 0; stands && i < sentence.length(); i++) {
            HELD[at + i] = true;
        }
    }

    private static void leave() {
        Checks.due(now + "has checks", checks > 0, true);
    }

    private static int startOf(String section) {
        int colon = DOCUMENT.indexOf("\n## " + section + ":");
        return colon >= 0 ? colon : DOCUMENT.indexOf("\n## " + section + "\n");
    }

    private static int endOf(String section) {
        return DOCUMENT.indexOf("\n## ", startOf(section) + 1);
    }

    static void due(String what, Object got, Object want) {
        checks++;
        Checks.due(now + what, got, want);
    }

    static void due(String what, long got, long want) {
        due(what, (Object) got, (Object) want);
    }

    /** The least and the greatest value are taken, and are what is seen then. */
    static void kept(int least, int most, Call call, ToIntFunction<FountainCues> look) {
        for (int value : new int[] {least, most}) {
            FountainCues x = new FountainCues();
            call.of(x, value);
            due(value + " is kept", look.applyAsInt(x), value);
        }
    }

    /** The least and the greatest value are taken, whatever is answered. */
    static void taken(int least, int most, Call call) {
        for (int value : new int[] {least, most}) {
            FountainCues x = new FountainCues();
            due(value + " throws", Checks.thrownBy(() -> call.of(x, value)), "nothing");
        }
    }

    /** The first values beyond the range and the farthest ones are refused, on both sides. */
    static void refusedBeyond(int least, int most, Class<? extends Exception> type, Call call) {
        for (int value : new int[] {least - 1, most + 1, Integer.MIN_VALUE, Integer.MAX_VALUE}) {
            refused(value + "", type, Shows::busy, x -> call.of(x, value));
        }
    }

    /** The call throws just this exception, and its object goes on as a twin does that was not called. */
    static void refused(String what, Class<? extends Exception> type, Supplier<FountainCues> made,
            Consumer<FountainCues> call) {
        FountainCues x = made.get();
        due(what + " throws", Checks.thrownBy(() -> call.accept(x)), type.getSimpleName());
        due(what + " changes nothing", story(x), story(made.get()));
    }

    /** All that an object tells, now and when its saved states come back, with the number of its next cue. */
    static String story(FountainCues x) {
        StringBuilder told = new StringBuilder();
        told.append(x.digest()).append(' ').append(x.firstError());
        if (x.count(9) == 6) {
            told.append(' ').append(x.undo()).append(' ').append(x.digest());
        }
        if (x.refusal(999, 6, 0) == 0) {
            told.append(" the next cue ").append(x.cue(999, 6, 0));
        }
        while (x.count(9) > 0) {
            told.append(' ').append(x.undo()).append(' ').append(x.digest());
        }
        return told.toString();
    }

    /** Each number that the section names stands in a sentence that was held. */
    static void closeNumbers(String section) {
        leave();
        for (int i = startOf(section); i < endOf(section); i++) {
            if (Character.isDigit(DOCUMENT.charAt(i))) {
                String around = DOCUMENT.substring(Math.max(0, i - 20), i + 20);
                Checks.due(section + ", held: .." + around + "..", HELD[i], true);
            }
        }
    }

    /** Each line of the section that names an argument, an answer or an exception was held. */
    static void closeLines(String section) {
        leave();
        int at = startOf(section) + 1;
        for (String line : DOCUMENT.substring(at, endOf(section)).split("\n")) {
            if (line.startsWith("- `") || line.startsWith("Returns ") || line.startsWith("Throws ")) {
                Checks.due(section + ", held: " + line, HELD[at] && HELD[at + line.length() - 1], true);
            }
            at += line.length() + 1;
        }
    }
}
