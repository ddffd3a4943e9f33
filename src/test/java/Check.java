/** What the tests have in common: answers that are due, and texts that are typed in. */
final class Check {
    private int wrong = 0;
    private int calls = 0;

    /** Prints the call if its answer is not the one that is due. */
    void due(String call, long got, long want) {
        calls++;
        if (got != want) {
            wrong++;
            System.out.println(call + " answered " + got + ", due is " + want);
        }
    }

    /** Ends the test: with exit code 1 if an answer was not as due. */
    void end() {
        System.out.println(calls - wrong + " of " + calls + " answers are as due");
        if (wrong != 0) {
            System.exit(1);
        }
    }

    /** Appends all characters of the text. */
    static void type(TermMarks x, String text) {
        for (int i = 0; i < text.length(); i++) {
            x.append(text.charAt(i));
        }
    }

    /** Empties the text, types the new one and loads it. */
    static int load(TermMarks x, String text) {
        x.clearText();
        type(x, text);
        return x.load();
    }

    /** A new object that has loaded the texts, each of which has to be without an error. */
    static TermMarks loaded(String... texts) {
        TermMarks x = new TermMarks();
        for (String text : texts) {
            int items = load(x, text);
            if (items < 0) {
                System.out.println("the text \"" + text + "\" is not loaded: " + items);
                System.exit(1);
            }
        }
        return x;
    }

    /** All that the calls that look tell of an object but for its text and its history, as one string. */
    static String all(TermMarks x) {
        StringBuilder seen = new StringBuilder();
        for (int what = 0; what <= 7; what++) {
            seen.append(x.count(what)).append(what == 7 ? "\n" : " ");
        }
        for (int word = 0; word < x.count(0); word++) {
            for (int index = 0; x.letter(word, index) != TermMarks.NONE; index++) {
                seen.append((char) x.letter(word, index));
            }
            seen.append('>').append(x.base(word)).append(' ');
        }
        for (int chapter = 0; chapter < 6; chapter++) {
            seen.append("\nch").append(chapter);
            for (int place = 0; x.place(chapter, place, 0) != TermMarks.NONE; place++) {
                for (int what = 0; what < 4; what++) {
                    seen.append(what == 0 ? ' ' : ',').append(x.place(chapter, place, what));
                }
            }
        }
        for (int term = 0; term < x.count(2); term++) {
            seen.append("\nterm").append(term);
            for (int what = 0; what <= 8; what++) {
                seen.append(' ').append(x.term(term, what));
            }
            for (int chapter = 0; chapter < 6; chapter++) {
                seen.append(' ').append(x.firstUse(term, chapter));
            }
        }
        for (int mark = 0; mark < x.count(4); mark++) {
            seen.append("\nmark ").append(x.mark(mark, 0)).append(' ').append(x.mark(mark, 1))
                    .append(' ').append(x.mark(mark, 2));
        }
        return seen.toString();
    }

    /** All of an object, with its text and its history. */
    static String whole(TermMarks x) {
        return all(x) + "\n" + x.count(8) + " " + x.count(9);
    }

    /** Tells whether two looks at objects show the same. */
    void same(String what, String got, String want) {
        calls++;
        if (!got.equals(want)) {
            wrong++;
            System.out.println(what + ": seen is\n" + got + "\ndue is\n" + want);
        }
    }
}
