/** The sentences of promises 1 to 5: a new object, insert, delete, replace, swap. */
public final class Promises01To05Test {
    private static final int BAD = TermMarks.INVALID_ARGUMENT;
    private static final int ILLEGAL = TermMarks.ILLEGAL_STATE;
    private static final int FULL = TermMarks.CAPACITY_EXCEEDED;
    private static final int NONE = TermMarks.NONE;
    private static final int MIN = Integer.MIN_VALUE;
    private static final int MAX = Integer.MAX_VALUE;
    private static final Sentences S = new Sentences();

    public static void main(String[] args) {
        newObject();
        insertRanges();
        insertAnswers();
        deleteRanges();
        deleteAnswers();
        replaceRanges();
        replaceAnswers();
        swapRanges();
        swapAnswers();
        S.end();
    }

    /** Two words in chapter 1, one in chapter 5, a term over each, and a snapshot. */
    private static void some(Run x) {
        x.load("ch1:a b;ch5:c;term a b;term c;").does("take", 0);
    }

    private static void newObject() {
        S.says("1: creates six chapters without words", x -> {
            for (int chapter = 0; chapter < 6; chapter++) {
                x.row(chapter);
            }
            x.due(BAD, "place", 6, 0, 0).due(0, "count", 1);
        });
        S.says("1: without terms", x -> x.due(0, "count", 2).due(0, "count", 3).due(BAD, "term", 0, 0)
                .due(NONE, "greediest").due(NONE, "mark", 0, 0).due(0, "count", 4).due(0, "count", 5));
        S.says("1: with an empty text", x -> x.due(0, "count", 9).due(0, "clearText").due(1, "append", 'a'));
        S.says("1: the history and the slots are empty, no word is a form", x -> x.due(0, "count", 8)
                .due(ILLEGAL, "undo").due(0, "count", 7).due(ILLEGAL, "restore", 0).due(ILLEGAL, "restore", 1)
                .due(0, "count", 6).due(26, "count", 0));
        S.says("1: an object has nothing in common with another one", x -> {
            some(x.another());
            Run other = x.another();
            some(x);
            other.due(0, "count", 1).due(0, "count", 2).due(0, "count", 7).due(0, "count", 8).load("ch1:xy;");
            x.row(1, 0, 1).due(26, "count", 0);
        });
    }

    private static void insertRanges() {
        S.says("2: chapter: 0 to 5", x -> x.due(1, "insert", 0, 0, 7).due(1, "insert", 5, 0, 8)
                .due(BAD, "insert", -1, 0, 0).due(BAD, "insert", 6, 0, 0)
                .due(BAD, "insert", MIN, 0, 0).due(BAD, "insert", MAX, 0, 0).row(0, 7).row(5, 8));
        S.says("2: place: 0 to the number of its words, in a chapter without words", x -> x
                .due(BAD, "insert", 2, 1, 0).due(BAD, "insert", 2, -1, 0).due(1, "insert", 2, 0, 0));
        S.says("2: place: 0 to the number of its words", x -> x.load("ch2:a b;")
                .due(BAD, "insert", 2, -1, 0).due(BAD, "insert", 2, 3, 0)
                .due(BAD, "insert", 2, MIN, 0).due(BAD, "insert", 2, MAX, 0)
                .due(3, "insert", 2, 2, 9).due(4, "insert", 2, 0, 8).row(2, 8, 0, 1, 9));
        S.says("2: the place of the new word, between others", x -> x.load("ch2:a b c;")
                .due(4, "insert", 2, 1, 25).row(2, 0, 25, 1, 2));
        S.says("2: the place of the new word, at the beginning of 39 others", x -> x.fill(4, 0, 39, 1)
                .due(40, "insert", 4, 0, 3).due(3, "place", 4, 0, 0).due(1, "place", 4, 1, 0)
                .due(1, "place", 4, 39, 0));
        S.says("2: word: a word, which is 0 to 25 at first", x -> x.due(BAD, "insert", 0, 0, -1)
                .due(BAD, "insert", 0, 0, 26).due(BAD, "insert", 0, 0, MIN).due(BAD, "insert", 0, 0, MAX)
                .due(BAD, "insert", 0, 0, NONE).due(1, "insert", 0, 0, 0).due(2, "insert", 0, 1, 25));
        S.says("2: word: a word, also one of a text", x -> x.load("term ab cd;")
                .due(BAD, "insert", 0, 0, 28).due(1, "insert", 0, 0, 27).row(0, 27));
        S.says("2: word: a word, also the 60th", x -> x.load(Texts.allWords()).due(1, "insert", 1, 0, 59)
                .due(BAD, "insert", 1, 0, 60).row(1, 59));
        S.says("2: word: none that an undone text brought", x -> x.load("ch0:ab;").due(0, "undo")
                .due(BAD, "insert", 0, 0, 26));
    }

    private static void insertAnswers() {
        S.isAction("2: this is an action", Promises01To05Test::some, x -> x.does("insert", 1, 1, 4));
        S.says("2: returns the number of its words then", x -> x.due(1, "insert", 3, 0, 0).due(1, "insert", 4, 0, 0)
                .due(2, "insert", 3, 0, 0).due(3, "insert", 3, 1, 0).due(4, "count", 1));
        S.says("2: CAPACITY_EXCEEDED if the chapter has 40 words", x -> x.fill(3, 0, 40, 6)
                .due(FULL, "insert", 3, 0, 0).due(FULL, "insert", 3, 20, 0).due(FULL, "insert", 3, 40, 0)
                .due(1, "insert", 2, 0, 0).due(1, "insert", 4, 0, 0));
        S.says("2: CAPACITY_EXCEEDED if the chapter has 40 words by a text", x -> x
                .load(Texts.words("ch3:", 40, 'q') + ";")
                .due(FULL, "insert", 3, 40, 0).due(39, "delete", 3, 5, 5).due(40, "insert", 3, 39, 0)
                .due(FULL, "insert", 3, 39, 0));
        S.says("2: INVALID_ARGUMENT is listed before CAPACITY_EXCEEDED", x -> x.fill(3, 0, 40, 6)
                .due(BAD, "insert", 3, 41, 0).due(BAD, "insert", 3, -1, 0).due(BAD, "insert", 3, 0, 26)
                .due(BAD, "insert", 3, 40, -1));
        S.changesNothing("2: a refused insert changes nothing", x -> x.fill(3, 0, 40, 6), x -> x
                .due(FULL, "insert", 3, 0, 0).due(BAD, "insert", 3, 41, 0).due(BAD, "insert", 6, 0, 0)
                .due(BAD, "insert", 0, 0, 26));
    }

    private static void deleteRanges() {
        S.says("3: chapter: 0 to 5", x -> x.load("ch0:a;ch5:b;").due(BAD, "delete", -1, 0, 0)
                .due(BAD, "delete", 6, 0, 0).due(BAD, "delete", MIN, 0, 0).due(BAD, "delete", MAX, 0, 0)
                .due(0, "delete", 0, 0, 0).row(0).row(5, 1).due(0, "delete", 5, 0, 0).row(5));
        S.says("3: from: a place of the chapter", x -> x.load("ch2:a b c;").due(BAD, "delete", 2, -1, 0)
                .due(BAD, "delete", 2, 3, 3).due(BAD, "delete", 2, MIN, 2).due(BAD, "delete", 2, MAX, MAX)
                .due(BAD, "delete", 2, -1, 2).due(2, "delete", 2, 2, 2).row(2, 0, 1).due(1, "delete", 2, 0, 0)
                .row(2, 1));
        S.says("3: from: a chapter without words has no place", x -> x.due(BAD, "delete", 0, 0, 0)
                .due(BAD, "delete", 0, 0, -1).load("ch1:a;").due(BAD, "delete", 0, 0, 0)
                .due(0, "delete", 1, 0, 0).due(BAD, "delete", 1, 0, 0));
        S.says("3: to: from or a later place of the chapter", x -> x.load("ch2:a b c;")
                .due(BAD, "delete", 2, 1, 0).due(BAD, "delete", 2, 2, 1).due(BAD, "delete", 2, 0, 3)
                .due(BAD, "delete", 2, 0, -1).due(BAD, "delete", 2, 2, 3).due(BAD, "delete", 2, 0, MAX)
                .due(BAD, "delete", 2, 0, MIN).due(1, "delete", 2, 1, 2).row(2, 0));
        S.says("3: to: no place that only a longer chapter has", x -> x.load("ch1:a b c;ch2:a;")
                .due(BAD, "delete", 2, 0, 1).row(2, 0).row(1, 0, 1, 2));
        S.says("3: its word is deleted, too", x -> x.load("ch2:a b c d e;").due(4, "delete", 2, 3, 3)
                .row(2, 0, 1, 2, 4).due(2, "delete", 2, 1, 2).row(2, 0, 4));
    }

    private static void deleteAnswers() {
        S.isAction("3: this is an action", Promises01To05Test::some, x -> x.due(1, "delete", 1, 0, 0));
        S.says("3: returns the number of its words then", x -> x.load("ch1:a b c d;ch2:e f;")
                .due(3, "delete", 1, 0, 0).due(1, "delete", 1, 1, 2).row(1, 1).row(2, 4, 5).due(3, "count", 1));
        S.says("3: returns 0 if all 40 words are deleted", x -> x.fill(0, 0, 40, 2).due(0, "delete", 0, 0, 39)
                .row(0).due(1, "insert", 0, 0, 5).row(0, 5));
        S.says("3: returns 39 if the last one of 40 words is deleted", x -> x.fill(0, 0, 39, 2)
                .due(40, "insert", 0, 39, 3).due(BAD, "delete", 0, 39, 40).due(39, "delete", 0, 39, 39)
                .due(2, "place", 0, 38, 0).due(NONE, "place", 0, 39, 0));
        S.changesNothing("3: a refused delete changes nothing", Promises01To05Test::some, x -> x
                .due(BAD, "delete", 1, 1, 0).due(BAD, "delete", 1, 0, 2).due(BAD, "delete", 0, 0, 0)
                .due(BAD, "delete", 6, 0, 0).due(BAD, "delete", 1, -1, 1));
    }

    private static void replaceRanges() {
        S.says("4: word: the word that goes", x -> x.load("ch0:a z;").due(BAD, "replace", -1, 1)
                .due(BAD, "replace", 26, 1).due(BAD, "replace", MIN, 1).due(BAD, "replace", MAX, 1)
                .due(1, "replace", 0, 1).due(1, "replace", 25, 1).row(0, 1, 1));
        S.says("4: other: the word that comes in its place", x -> x.load("ch0:b c;").due(BAD, "replace", 1, -1)
                .due(BAD, "replace", 1, 26).due(BAD, "replace", 1, MIN).due(BAD, "replace", 1, MAX)
                .due(1, "replace", 1, 0).due(1, "replace", 2, 25).row(0, 0, 25));
        S.says("4: also words of a text, up to the 60th", x -> x.load(Texts.allWords()).due(1, "replace", 26, 59)
                .due(59, "place", 0, 0, 0).due(2, "replace", 59, 26).due(BAD, "replace", 60, 0)
                .due(BAD, "replace", 0, 60));
        S.says("4: INVALID_ARGUMENT if both are the same", x -> x.load("ch0:a b;").due(BAD, "replace", 0, 0)
                .due(BAD, "replace", 25, 25).due(BAD, "replace", 26, 26).due(BAD, "replace", -1, -1).row(0, 0, 1));
    }

    private static void replaceAnswers() {
        S.says("4: wherever it stands in chapters", x -> {
            for (int chapter = 0; chapter < 6; chapter++) {
                x.load("ch" + chapter + ":d c d e d;");
            }
            x.due(18, "replace", 3, 1);
            for (int chapter = 0; chapter < 6; chapter++) {
                x.row(chapter, 1, 2, 1, 4, 1);
            }
        });
        S.says("4: not its forms", x -> x.load("form b=a;form c=a;ch0:a b c a;").due(2, "replace", 0, 5)
                .row(0, 5, 1, 2, 5).due(0, "base", 1).due(1, "replace", 1, 6).row(0, 5, 6, 2, 5).due(0, "base", 1));
        S.says("4: not its base, if it is a form", x -> x.load("form b=a;ch0:a b;").due(1, "replace", 1, 2)
                .row(0, 0, 2));
        S.says("4: terms stay", x -> x.load("ch0:a b;term a b;term b;").due(1, "replace", 0, 2)
                .term(0, 0, 1).term(1, 1).due(0, "term", 0, 6).due(1, "term", 1, 6));
        S.says("4: snapshots are no chapters", x -> x.load("ch0:a b;").does("take", 0).due(1, "replace", 0, 2)
                .row(0, 2, 1).due(2, "restore", 0).row(0, 0, 1));
        S.says("4: the word that goes stays a word", x -> x.load("ch0:ab;").due(1, "replace", 26, 0)
                .due(27, "count", 0).due(2, "insert", 0, 0, 26));
        S.isAction("4: this is an action", Promises01To05Test::some, x -> x.due(1, "replace", 0, 1));
        S.isAction("4: this is an action, also if no place changes", Promises01To05Test::some,
                x -> x.due(0, "replace", 25, 1));
        S.says("4: returns the number of places that changed, 0", x -> x.due(0, "replace", 0, 1).load("ch0:a;")
                .due(0, "delete", 0, 0, 0).due(0, "replace", 0, 1).due(0, "replace", 2, 0));
        S.says("4: returns the number of places that changed, all 240", x -> {
            for (int chapter = 0; chapter < 6; chapter++) {
                x.fill(chapter, 0, 40, 4);
            }
            x.due(240, "replace", 4, 3).due(0, "replace", 4, 3).due(3, "place", 5, 39, 0).due(3, "place", 0, 0, 0);
        });
        S.changesNothing("4: a refused replace changes nothing", Promises01To05Test::some, x -> x
                .due(BAD, "replace", 0, 0).due(BAD, "replace", 0, 26).due(BAD, "replace", -1, 0));
    }

    private static void swapRanges() {
        S.says("5: one: 0 to 5", x -> x.load("ch0:a;ch5:b;").due(BAD, "swap", -1, 0).due(BAD, "swap", 6, 0)
                .due(BAD, "swap", MIN, 0).due(BAD, "swap", MAX, 0).due(0, "swap", 0, 1).row(1, 0).row(0)
                .due(0, "swap", 5, 4).row(4, 1).row(5));
        S.says("5: other: 0 to 5", x -> x.load("ch0:a;ch5:b;").due(BAD, "swap", 0, -1).due(BAD, "swap", 0, 6)
                .due(BAD, "swap", 0, MIN).due(BAD, "swap", 0, MAX).due(BAD, "swap", 6, 6).due(BAD, "swap", -1, -1)
                .due(0, "swap", 2, 0).row(2, 0).row(0).due(0, "swap", 3, 5).row(3, 1).row(5));
    }

    private static void swapAnswers() {
        S.says("5: swaps two chapters, and no others", x -> x.load("ch0:a;ch1:b c;ch2:d e f;ch4:g;")
                .does("swap", 1, 2).row(0, 0).row(1, 3, 4, 5).row(2, 1, 2).row(3).row(4, 6).row(5));
        S.says("5: swaps a full chapter with one without words", x -> x.fill(2, 0, 40, 7).does("swap", 2, 3)
                .row(2).due(7, "place", 3, 39, 0).due(NONE, "place", 3, 40, 0).due(FULL, "insert", 3, 0, 0)
                .due(1, "insert", 2, 0, 1).row(2, 1));
        S.says("5: the chapters stay swapped apart", x -> x.load("ch0:a;ch1:b;").does("swap", 0, 1)
                .does("insert", 0, 1, 2).row(0, 1, 2).row(1, 0));
        S.isAction("5: a chapter can be swapped with itself", Promises01To05Test::some, x -> x.due(2, "swap", 1, 1)
                .row(1, 0, 1).row(5, 2));
        S.isAction("5: this is an action", Promises01To05Test::some, x -> x.due(2, "swap", 1, 5).row(1, 2)
                .row(5, 0, 1));
        S.says("5: returns the number of marks then, 0", x -> x.due(0, "swap", 0, 1).load("ch0:a;term b;")
                .due(0, "swap", 0, 1));
        S.says("5: returns the number of marks then", x -> x.load("ch0:a b a;ch3:b;term a;term b;").due(3, "swap", 0, 5)
                .due(3, "mark", 0, 0).due(5, "mark", 1, 0).due(5, "mark", 2, 0).due(3, "count", 4));
        S.says("5: returns the number of marks then, without the quiet terms'", x -> x
                .load("ch0:a b;ch3:b;term a;term b;").does("setQuiet", 1, 1).due(1, "swap", 0, 3));
        S.changesNothing("5: a refused swap changes nothing", Promises01To05Test::some, x -> x
                .due(BAD, "swap", 1, 6).due(BAD, "swap", -1, 5).due(BAD, "swap", 6, 6));
    }
}
