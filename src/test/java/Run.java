import java.lang.reflect.InvocationTargetException;
import java.lang.reflect.Method;
import java.util.Arrays;

/**
 * An object of the program that is asked by the names of its calls, so that a wrong answer is told
 * with its call. It is used for no more calls than the document promises anything for.
 */
final class Run {
    private static final int CALLS = 512;

    private final Sentences sentences;
    private final TermMarks x = new TermMarks();
    private int calls = 0;

    Run(Sentences sentences) {
        this.sentences = sentences;
    }

    /** Another object for the test of the same sentence. */
    Run another() {
        return new Run(sentences);
    }

    int ask(String call, int... arguments) {
        calls++;
        if (calls > CALLS) {
            sentences.broken("the test makes more than " + CALLS + " calls of one object");
        }
        Class<?>[] types = new Class<?>[arguments.length];
        Arrays.fill(types, int.class);
        try {
            Method method = TermMarks.class.getMethod(call, types);
            return (Integer) method.invoke(x, Arrays.stream(arguments).boxed().toArray());
        } catch (InvocationTargetException thrown) {
            sentences.broken(told(call, arguments) + " threw " + thrown.getCause());
        } catch (ReflectiveOperationException missing) {
            sentences.broken(told(call, arguments) + " can't be called: " + missing);
        }
        return Integer.MIN_VALUE;
    }

    private static String told(String call, int... arguments) {
        String row = Arrays.toString(arguments);
        return call + "(" + row.substring(1, row.length() - 1) + ")";
    }

    /** Makes the call, whose answer has to be the wanted one. */
    Run due(int want, String call, int... arguments) {
        int got = ask(call, arguments);
        if (got != want) {
            sentences.broken("call " + calls + ", " + told(call, arguments) + ", answered " + got + ", due is " + want);
        }
        return this;
    }

    /** Makes a call that has to be possible. */
    Run does(String call, int... arguments) {
        int got = ask(call, arguments);
        if (got < 0) {
            sentences.broken("call " + calls + ", " + told(call, arguments) + ", answered " + got + ", not possible");
        }
        return this;
    }

    /** Appends the characters of the text. */
    Run type(String text) {
        for (int i = 0; i < text.length(); i++) {
            does("append", text.charAt(i));
        }
        return this;
    }

    /** Appends the text and loads it; the answer has to be the wanted one. */
    Run load(int want, String text) {
        type(text);
        int got = ask("load");
        if (got != want) {
            sentences.broken("load() of \"" + text + "\" answered " + got + ", due is " + want);
        }
        return this;
    }

    /** Appends and loads a text without an error. */
    Run load(String text) {
        type(text);
        int got = ask("load");
        if (got < 0) {
            sentences.broken("load() of \"" + text + "\" answered " + got + ", not possible");
        }
        return this;
    }

    /** A text with an error at the position; it is cleared away then. */
    Run error(int position, String text) {
        return load(-1000 - position, text).due(text.length(), "clearText");
    }

    /** The chapter has to have these words and no others. */
    Run row(int chapter, int... words) {
        for (int place = 0; place < words.length; place++) {
            due(words[place], "place", chapter, place, 0);
        }
        return due(TermMarks.NONE, "place", chapter, words.length, 0);
    }

    /** The word has to have these letters and no others. */
    Run spelled(int word, String letters) {
        for (int index = 0; index < letters.length(); index++) {
            due(letters.charAt(index), "letter", word, index);
        }
        return due(TermMarks.NONE, "letter", word, letters.length());
    }

    /** The term has to have these words and no others. */
    Run term(int term, int... words) {
        due(words.length, "term", term, 0);
        for (int index = 0; index < 4; index++) {
            due(index < words.length ? words[index] : TermMarks.NONE, "term", term, index + 1);
        }
        return this;
    }

    /** Inserts words behind the last one of a chapter that has so many. */
    Run fill(int chapter, int from, int to, int word) {
        for (int place = from; place < to; place++) {
            due(place + 1, "insert", chapter, place, word);
        }
        return this;
    }

    /** Adds terms of one word each, from word 0 on. */
    Run terms(int count) {
        for (int word = 0; word < count; word++) {
            due(word, "addTerm", word, -1, -1, -1);
        }
        return this;
    }

    /** The other object has to look the same. */
    Run same(Run other) {
        String mine = look();
        String due = other.look();
        if (!mine.equals(due)) {
            sentences.broken("seen is\n" + mine + "\ndue is\n" + due);
        }
        return this;
    }

    /** Takes back all that the history keeps. */
    Run undoAll() {
        for (int left = ask("count", 8) - 1; left >= 0; left--) {
            due(left, "undo");
        }
        return this;
    }

    /** All that the calls that look tell of the object. */
    private String look() {
        StringBuilder seen = new StringBuilder();
        int[] counts = new int[10];
        for (int what = 0; what < 10; what++) {
            counts[what] = ask("count", what);
        }
        seen.append(Arrays.toString(counts)).append('\n');
        for (int word = 0; word < counts[0]; word++) {
            lookAtWord(seen, word);
        }
        for (int chapter = 0; chapter < 6; chapter++) {
            lookAtChapter(seen.append("\nch").append(chapter), chapter);
        }
        for (int term = 0; term < counts[2]; term++) {
            seen.append("\nterm").append(term);
            for (int what = 0; what <= 8; what++) {
                seen.append(' ').append(ask("term", term, what));
            }
        }
        for (int mark = 0; mark < counts[4]; mark++) {
            seen.append("\nmark ").append(ask("mark", mark, 0)).append(' ').append(ask("mark", mark, 1))
                    .append(' ').append(ask("mark", mark, 2));
        }
        return seen.toString();
    }

    private void lookAtWord(StringBuilder seen, int word) {
        for (int index = 0; index < 8; index++) {
            int letter = ask("letter", word, index);
            if (letter == TermMarks.NONE) {
                break;
            }
            seen.append((char) letter);
        }
        seen.append('>').append(ask("base", word)).append(' ');
    }

    private void lookAtChapter(StringBuilder seen, int chapter) {
        for (int place = 0; place < 40; place++) {
            int word = ask("place", chapter, place, 0);
            if (word == TermMarks.NONE) {
                break;
            }
            seen.append(' ').append(word);
            for (int what = 1; what < 4; what++) {
                seen.append(',').append(ask("place", chapter, place, what));
            }
        }
    }
}
