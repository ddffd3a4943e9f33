/** What the tests have in common: answers that are due, and texts that are typed in. */
final class Check {
    private int wrong = 0;
    private int calls = 0;

    /** Prints the call if its answer is not the one that is due. */
    void due(String call, long got, long want) {
        calls++;
        if (got != want) {
            wrong++;
            System.out.println(call + " answered " + got + ", due is " + want);
        }
    }

    /** Ends the test: with exit code 1 if an answer was not as due. */
    void end() {
        System.out.println(calls - wrong + " of " + calls + " answers are as due");
        if (wrong != 0) {
            System.exit(1);
        }
    }

    /** Appends all characters of the text. */
    static void type(TermMarks x, String text) {
        for (int i = 0; i < text.length(); i++) {
            x.append(text.charAt(i));
        }
    }

    /** Empties the text, types the new one and loads it. */
    static int load(TermMarks x, String text) {
        x.clearText();
        type(x, text);
        return x.load();
    }

    /** A new object that has loaded the texts, each of which has to be without an error. */
    static TermMarks loaded(String... texts) {
        TermMarks x = new TermMarks();
        for (String text : texts) {
            int items = load(x, text);
            if (items < 0) {
                System.out.println("the text \"" + text + "\" is not loaded: " + items);
                System.exit(1);
            }
        }
        return x;
    }

    /**
     * All that the calls that look tell of an object but for its text and its history, as one string.
     * Each call is made once, because nothing is promised of an object after 512 calls.
     */
    static String all(TermMarks x) {
        StringBuilder seen = new StringBuilder();
        int[] counts = new int[8];
        for (int what = 0; what < counts.length; what++) {
            counts[what] = x.count(what);
            seen.append(counts[what]).append(' ');
        }
        for (int word = 0; word < counts[0]; word++) {
            int letter = x.letter(word, 0);
            for (int index = 1; letter != TermMarks.NONE; index++) {
                seen.append((char) letter);
                letter = x.letter(word, index);
            }
            seen.append('>').append(x.base(word)).append(' ');
        }
        for (int chapter = 0; chapter < 6; chapter++) {
            seen.append("\nch").append(chapter);
            int word = x.place(chapter, 0, 0);
            for (int place = 1; word != TermMarks.NONE; place++) {
                seen.append(' ').append(word);
                for (int what = 1; what < 4; what++) {
                    seen.append(',').append(x.place(chapter, place - 1, what));
                }
                word = x.place(chapter, place, 0);
            }
        }
        terms(x, counts[2], seen);
        for (int mark = 0; mark < counts[4]; mark++) {
            seen.append("\nmark ").append(x.mark(mark, 0)).append(' ').append(x.mark(mark, 1))
                    .append(' ').append(x.mark(mark, 2));
        }
        return seen.toString();
    }

    private static void terms(TermMarks x, int count, StringBuilder seen) {
        for (int term = 0; term < count; term++) {
            seen.append("\nterm").append(term);
            for (int what = 0; what <= 8; what++) {
                seen.append(' ').append(x.term(term, what));
            }
            for (int chapter = 0; chapter < 6; chapter++) {
                seen.append(' ').append(x.firstUse(term, chapter));
            }
        }
    }

    /** All of an object, with its text and its history. */
    static String whole(TermMarks x) {
        return all(x) + "\n" + x.count(8) + " " + x.count(9);
    }

    /** Tells whether two looks at objects show the same. */
    void same(String what, String got, String want) {
        calls++;
        if (!got.equals(want)) {
            wrong++;
            System.out.println(what + ": seen is\n" + got + "\ndue is\n" + want);
        }
    }
}
