/** The sentences of promises 16 to 22: count, letter, base, place, term, firstUse, mark. */
public final class Promises16To22Test {
    private static final int BAD = TermMarks.INVALID_ARGUMENT;
    private static final int NONE = TermMarks.NONE;
    private static final int MIN = Integer.MIN_VALUE;
    private static final int MAX = Integer.MAX_VALUE;
    private static final Sentences S = new Sentences();

    public static void main(String[] args) {
        counts();
        countsOfMarks();
        countsOfOthers();
        letters();
        bases();
        placeRanges();
        placeAnswers();
        termRanges();
        termAnswers();
        firstUses();
        markRanges();
        markAnswers();
        S.end();
    }

    /** Twelve terms of a word each, which are all read in all chapters. */
    private static void mostMarks(Run x) {
        x.terms(12);
        for (int chapter = 0; chapter < 6; chapter++) {
            x.load("ch" + chapter + ":a b c d e f g h i j k l;");
        }
    }

    private static void counts() {
        S.says("16: what: 0 to 9", x -> x.due(BAD, "count", -1).due(BAD, "count", 10).due(BAD, "count", MIN)
                .due(BAD, "count", MAX).due(BAD, "count", NONE).due(26, "count", 0).due(0, "count", 9));
        S.says("16: 0 the number of words that there are, 26 to 60", x -> x.due(26, "count", 0).load("ch0:ab a ab;")
                .due(27, "count", 0).load("ch0:;").due(27, "count", 0).load("term cd;form ef=gh;").due(30, "count", 0)
                .due(2, "undo").due(27, "count", 0));
        S.says("16: 0 the number of words that there are, 60", x -> x.load(Texts.allWords()).due(60, "count", 0));
        S.says("16: 1 of words of all chapters, 0 to 240", x -> {
            x.due(0, "count", 1);
            for (int chapter = 0; chapter < 6; chapter++) {
                x.fill(chapter, 0, 40, 0);
            }
            x.due(240, "count", 1).does("delete", 5, 1, 39).due(201, "count", 1);
        });
        S.says("16: 2 of terms, 0 to 12", x -> x.due(0, "count", 2).terms(12).due(12, "count", 2).does("removeTerm", 0)
                .due(11, "count", 2));
        S.says("16: 3 of quiet terms, 0 to 12", x -> {
            x.due(0, "count", 3).terms(12).due(0, "count", 3);
            for (int term = 0; term < 12; term++) {
                x.does("setQuiet", term, 1).due(term + 1, "count", 3);
            }
            x.does("setQuiet", 5, 0).due(11, "count", 3).does("removeTerm", 5).due(11, "count", 3)
                    .does("removeTerm", 5).due(10, "count", 3);
        });
    }

    private static void countsOfMarks() {
        S.says("16: 4 of marks, 0", x -> x.due(0, "count", 4).load("ch0:a;").due(0, "count", 4).load("term b;")
                .due(0, "count", 4));
        S.says("16: 4 of marks", x -> x.load("ch0:a b a;ch1:a;term a;term b;").due(3, "count", 4)
                .does("setQuiet", 0, 1).due(1, "count", 4));
        S.says("16: 4 of marks, 72", x -> {
            mostMarks(x);
            x.due(72, "count", 4);
        });
        S.says("16: 5 of readings of terms in all chapters, also of quiet ones", x -> x.due(0, "count", 5)
                .load("ch0:a b a;ch1:a;term a;term b c;").due(3, "count", 5).does("setQuiet", 0, 1).due(3, "count", 5));
        S.says("16: 5 of readings of terms in all chapters, 240", x -> {
            x.load("term a;");
            for (int chapter = 0; chapter < 6; chapter++) {
                x.fill(chapter, 0, 40, 0);
            }
            x.due(240, "count", 5).due(6, "count", 4);
        });
        S.says("16: 5 of readings of terms, a term of four words", x -> x.load("term a a a a;").fill(0, 0, 39, 0)
                .due(9, "count", 5).does("insert", 0, 0, 0).due(10, "count", 5));
    }

    private static void countsOfOthers() {
        S.says("16: 6 of words whose base is another word", x -> {
            x.due(0, "count", 6);
            for (int word = 1; word < 26; word++) {
                x.does("setBase", word, 0).due(word, "count", 6);
            }
            x.does("setBase", 3, 3).due(24, "count", 6).load("form a=a;form ab=a;").due(25, "count", 6);
        });
        S.says("16: 7 of snapshots, 0 to 2", x -> x.due(0, "count", 7).does("take", 1).due(1, "count", 7)
                .does("take", 1)
                .due(1, "count", 7).does("take", 0).due(2, "count", 7).does("restore", 0).due(2, "count", 7));
        S.says("16: 8 of states in the history, 0 to 5", x -> {
            x.due(0, "count", 8);
            for (int states = 1; states <= 7; states++) {
                x.does("insert", 0, 0, 0).due(Math.min(states, 5), "count", 8);
            }
            x.does("undo").due(4, "count", 8);
        });
        S.says("16: 9 the length of the text, 0 to 140", x -> x.due(0, "count", 9).type("c").due(1, "count", 9)
                .type(" ".repeat(139)).due(140, "count", 9).does("clearText").due(0, "count", 9));
    }

    private static void letters() {
        S.says("17: word: a word", x -> x.due(BAD, "letter", -1, 0).due(BAD, "letter", 26, 0).due(BAD, "letter", MIN, 0)
                .due(BAD, "letter", MAX, 0).due('a', "letter", 0, 0).due('z', "letter", 25, 0));
        S.says("17: word: a word of a text, up to the 60th", x -> x.load(Texts.allWords()).due('b', "letter", 59, 0)
                .due('h', "letter", 59, 1).due(BAD, "letter", 60, 0));
        S.says("17: index: 0 for the first letter", x -> x.load("ch0:xyz;").due('x', "letter", 26, 0)
                .due('y', "letter", 26, 1).due('z', "letter", 26, 2));
        S.says("17: index: 7 for the eighth letter, 8 is none", x -> x.load("ch0:azazzaza;").spelled(26, "azazzaza")
                .due('a', "letter", 26, 7).due(NONE, "letter", 26, 8));
        S.says("17: INVALID_ARGUMENT if index is negative", x -> x.due(BAD, "letter", 0, -1).due(BAD, "letter", 0, MIN)
                .due(BAD, "letter", 0, -8));
        S.says("17: NONE if it has not so many letters", x -> x.load("ch0:abc;").due(NONE, "letter", 0, 1)
                .due(NONE, "letter", 26, 3).due(NONE, "letter", 26, 7).due(NONE, "letter", 26, 8)
                .due(NONE, "letter", 26, 9).due(NONE, "letter", 26, 64).due(NONE, "letter", 26, 1 << 29)
                .due(NONE, "letter", 26, MAX));
        S.says("17: NONE only if no error condition applies", x -> x.due(BAD, "letter", 26, 9)
                .due(BAD, "letter", -1, MAX)
                .due(BAD, "letter", 26, -1));
    }

    private static void bases() {
        S.says("18: word: a word; INVALID_ARGUMENT if there is no such word", x -> x.due(BAD, "base", -1)
                .due(BAD, "base", 26).due(BAD, "base", MIN).due(BAD, "base", MAX).due(BAD, "base", NONE)
                .due(0, "base", 0).due(25, "base", 25).load(Texts.allWords()).due(59, "base", 59).due(BAD, "base", 60));
        S.says("18: returns the base", x -> x.does("setBase", 25, 0).due(0, "base", 25).due(0, "base", 0)
                .does("setBase", 25, 24).due(24, "base", 25).load("form ab=z;").due(24, "base", 26));
    }

    private static void placeRanges() {
        S.says("19: chapter: 0 to 5", x -> x.load("ch0:a;ch5:b;").due(0, "place", 0, 0, 0).due(1, "place", 5, 0, 0)
                .due(BAD, "place", -1, 0, 0).due(BAD, "place", 6, 0, 0).due(BAD, "place", MIN, 0, 0)
                .due(BAD, "place", MAX, 0, 0));
        S.says("19: INVALID_ARGUMENT if what is out of range", x -> x.load("ch0:a;").due(BAD, "place", 0, 0, -1)
                .due(BAD, "place", 0, 0, 4).due(BAD, "place", 0, 0, MIN).due(BAD, "place", 0, 0, MAX)
                .due(0, "place", 0, 0, 0).due(0, "place", 0, 0, 3));
        S.says("19: INVALID_ARGUMENT if place is negative", x -> x.load("ch0:a;").due(BAD, "place", 0, -1, 0)
                .due(BAD, "place", 0, -1, 3).due(BAD, "place", 0, MIN, 1).due(BAD, "place", 1, -1, 0));
        S.says("19: NONE if the chapter has not so many words", x -> x.load("ch0:a b;term a;").due(1, "place", 0, 1, 0)
                .due(NONE, "place", 0, 2, 0).due(NONE, "place", 0, 2, 1).due(NONE, "place", 0, 2, 2)
                .due(NONE, "place", 0, 2, 3).due(NONE, "place", 0, MAX, 3).due(NONE, "place", 1, 0, 3)
                .due(NONE, "place", 0, 40, 3));
        S.says("19: NONE if the chapter has not so many words, 40", x -> x.fill(0, 0, 40, 3).due(3, "place", 0, 39, 0)
                .due(NONE, "place", 0, 40, 0).due(0, "place", 0, 39, 3).due(NONE, "place", 0, 40, 3)
                .due(NONE, "place", 0, 41, 3));
        S.says("19: NONE if words were deleted", x -> x.load("ch0:a b;term b;").does("delete", 0, 1, 1)
                .due(NONE, "place", 0, 1, 0).due(NONE, "place", 0, 1, 3));
        S.says("19: NONE only if no error condition applies", x -> x.due(BAD, "place", 6, 0, 0)
                .due(BAD, "place", 0, 0, 4)
                .due(BAD, "place", 0, 99, -1).due(BAD, "place", -1, 99, 0));
    }

    private static void placeAnswers() {
        S.says("19: place: 0 for the first word; what: 0 its word", x -> x.load("ch2:c d ab c;").row(2, 2, 3, 26, 2));
        S.says("19: what: 0 its word, not its base", x -> x.load("form b=a;ch0:b;").due(1, "place", 0, 0, 0));
        S.says("19: what: 1 the term that is read over it (NONE if none is)", x -> x
                .load("ch0:x a b c d y c;term c;term a b c d;").due(NONE, "place", 0, 0, 1).due(1, "place", 0, 1, 1)
                .due(1, "place", 0, 2, 1).due(1, "place", 0, 3, 1).due(1, "place", 0, 4, 1).due(NONE, "place", 0, 5, 1)
                .due(0, "place", 0, 6, 1));
        S.says("19: what: 2 which word of this term it is, from 0 (NONE likewise)", x -> x
                .load("ch0:x a b c d y c;term c;term a b c d;").due(NONE, "place", 0, 0, 2).due(0, "place", 0, 1, 2)
                .due(1, "place", 0, 2, 2).due(2, "place", 0, 3, 2).due(3, "place", 0, 4, 2).due(NONE, "place", 0, 5, 2)
                .due(0, "place", 0, 6, 2));
        S.says("19: what: 3 1 if a mark is at this place and 0 if not", x -> x.load("ch0:x a b a b;ch1:b;term a b;")
                .due(0, "place", 0, 0, 3).due(1, "place", 0, 1, 3).due(0, "place", 0, 2, 3).due(0, "place", 0, 3, 3)
                .due(0, "place", 0, 4, 3).due(0, "place", 1, 0, 3));
        S.says("19: what: 1 and 2 also of a quiet term, 3 not", x -> x.load("ch0:a b;term a b;").does("setQuiet", 0, 1)
                .due(0, "place", 0, 1, 1).due(1, "place", 0, 1, 2).due(0, "place", 0, 0, 3));
        S.says("19: what: 1 to 3 at the last of 40 places", x -> x.fill(5, 0, 39, 0).does("insert", 5, 39, 1)
                .load("term a b;").due(NONE, "place", 5, 37, 1).due(0, "place", 5, 38, 1).due(0, "place", 5, 39, 1)
                .due(1, "place", 5, 39, 2).due(1, "place", 5, 38, 3).due(0, "place", 5, 39, 3));
    }

    private static void termRanges() {
        S.says("20: term: a term; INVALID_ARGUMENT if there is no such term", x -> x.due(BAD, "term", 0, 0)
                .load("term a;term b c;").due(BAD, "term", -1, 0).due(BAD, "term", 2, 0).due(BAD, "term", MIN, 0)
                .due(BAD, "term", MAX, 0).due(1, "term", 0, 0).due(2, "term", 1, 0).does("removeTerm", 0)
                .due(BAD, "term", 1, 0).due(BAD, "term", 1, 6));
        S.says("20: the 12th term is the last one", x -> x.terms(12).due(11, "term", 11, 1).due(BAD, "term", 12, 1)
                .due(BAD, "term", 12, 6).due(BAD, "term", 12, 8));
        S.says("20: INVALID_ARGUMENT if what is out of range", x -> x.load("term a b c d;").due(BAD, "term", 0, -1)
                .due(BAD, "term", 0, 9).due(BAD, "term", 0, MIN).due(BAD, "term", 0, MAX).due(4, "term", 0, 0)
                .due(0, "term", 0, 8));
        S.says("20: what: 0 the number of its words", x -> x.load("term a;term a b;term a b c;term a b c d;")
                .due(1, "term", 0, 0).due(2, "term", 1, 0).due(3, "term", 2, 0).due(4, "term", 3, 0));
        S.says("20: what: 1 to 4 these words (NONE beyond their number)", x -> x
                .load("term d;term e d;term c e d;term z c e d;").term(0, 3).term(1, 4, 3).term(2, 2, 4, 3)
                .term(3, 25, 2, 4, 3));
        S.says("20: what: 5 1 if it is quiet and 0 if not", x -> x.load("term a;term b;").does("setQuiet", 1, 1)
                .due(0, "term", 0, 5).due(1, "term", 1, 5).does("setQuiet", 1, 0).due(0, "term", 1, 5));
    }

    private static void termAnswers() {
        S.says("20: what: 6 how often it is read", x -> x.load("ch0:a a b a;ch4:a;term a;term a b;term c;")
                .due(3, "term", 0, 6).due(1, "term", 1, 6).due(0, "term", 2, 6).does("setQuiet", 0, 1)
                .due(3, "term", 0, 6));
        S.says("20: what: 7 how often it occurs, read or not", x -> x
                .load("ch0:a a b a;ch4:a;term a;term a b;term c;term b;")
                .due(4, "term", 0, 7).due(1, "term", 1, 7).due(0, "term", 2, 7).due(1, "term", 3, 7)
                .due(0, "term", 3, 6));
        S.says("20: what: 7 also at places that overlap", x -> x.load("ch0:a a a a a;term a a;term a a a a;")
                .due(4, "term", 0, 7).due(0, "term", 0, 6).due(2, "term", 1, 7).due(1, "term", 1, 6));
        S.says("20: what: 6 and 7, at most 40 in a chapter", x -> x.fill(1, 0, 40, 0).load("term a;term a b;")
                .due(40, "term", 0, 6).due(40, "term", 0, 7).due(0, "term", 1, 7).due(1, "term", 0, 8));
        S.says("20: what: 7 by the bases of the words", x -> x.load("form b=a;form c=a;ch0:b a c b;term c b;")
                .due(3, "term", 0, 7).due(2, "term", 0, 6));
        S.says("20: what: 8 the number of its marks, one a chapter", x -> x
                .load("ch0:a b;ch1:b a b a;ch2:a c;ch3:b;ch4:a;ch5:a;term a;term b;term a c;")
                .due(4, "term", 0, 8).due(3, "term", 1, 8).due(1, "term", 2, 8).due(8, "count", 4)
                .does("setQuiet", 0, 1).due(0, "term", 0, 8).due(3, "term", 1, 8));
        S.says("20: what: 8 the number of its marks, 6", x -> x.load("ch0:a;ch1:a;ch2:a;ch3:a;ch4:a;ch5:a;term a;")
                .due(6, "term", 0, 8));
    }

    private static void firstUses() {
        S.says("21: term: a term", x -> x.due(BAD, "firstUse", 0, 0).load("ch0:a;term a;").due(0, "firstUse", 0, 0)
                .due(BAD, "firstUse", -1, 0).due(BAD, "firstUse", 1, 0).due(BAD, "firstUse", MIN, 0)
                .due(BAD, "firstUse", MAX, 0).due(BAD, "firstUse", 12, 0));
        S.says("21: chapter: 0 to 5", x -> x.load("ch0:b a;ch5:b b a;term a;").due(1, "firstUse", 0, 0)
                .due(2, "firstUse", 0, 5).due(BAD, "firstUse", 0, -1).due(BAD, "firstUse", 0, 6)
                .due(BAD, "firstUse", 0, MIN).due(BAD, "firstUse", 0, MAX));
        S.says("21: the place of the first reading, not of the first place where it occurs", x -> x
                .load("ch0:x b c b b c;ch1:b c;term b;term b c;").due(3, "firstUse", 0, 0).due(1, "firstUse", 1, 0)
                .due(NONE, "firstUse", 0, 1));
        S.says("21: returns the place, also if the term is quiet", x -> x.load("ch0:b a a;term a;")
                .does("setQuiet", 0, 1)
                .due(1, "firstUse", 0, 0));
        S.says("21: the last of 40 places", x -> x.fill(0, 0, 39, 1).does("insert", 0, 39, 0).load("term a;")
                .due(39, "firstUse", 0, 0));
        S.says("21: NONE if it is not read in this chapter", x -> x.load("ch0:a;ch2:b a;term a;term b a;")
                .due(NONE, "firstUse", 0, 1).due(NONE, "firstUse", 0, 2).due(NONE, "firstUse", 1, 0));
        S.says("21: NONE only if no error condition applies", x -> x.load("term a;").due(BAD, "firstUse", 0, 6)
                .due(BAD, "firstUse", 1, 0).due(NONE, "firstUse", 0, 0));
    }

    private static void markRanges() {
        S.says("22: INVALID_ARGUMENT if mark is negative", x -> x.load("ch0:a;term a;").due(BAD, "mark", -1, 0)
                .due(BAD, "mark", MIN, 0).due(0, "mark", 0, 0));
        S.says("22: INVALID_ARGUMENT if what is out of range", x -> x.load("ch0:a;term a;").due(BAD, "mark", 0, -1)
                .due(BAD, "mark", 0, 3).due(BAD, "mark", 0, MIN).due(BAD, "mark", 0, MAX).due(0, "mark", 0, 2));
        S.says("22: NONE if there are not so many", x -> x.due(NONE, "mark", 0, 0).load("ch0:a;ch1:a;term a;")
                .due(1, "mark", 1, 0).due(NONE, "mark", 2, 0).due(NONE, "mark", 2, 1).due(NONE, "mark", 2, 2)
                .due(NONE, "mark", 72, 0).due(NONE, "mark", MAX, 0).does("setQuiet", 0, 1).due(NONE, "mark", 0, 0));
        S.says("22: NONE if there are not so many, 72", x -> {
            mostMarks(x);
            x.due(5, "mark", 71, 0).due(11, "mark", 71, 1).due(11, "mark", 71, 2).due(NONE, "mark", 72, 0)
                    .due(4, "mark", 59, 0).due(5, "mark", 60, 0).due(0, "mark", 60, 1);
        });
        S.says("22: NONE only if no error condition applies", x -> x.due(BAD, "mark", 0, 3).due(BAD, "mark", 5, -1)
                .due(BAD, "mark", -1, 0).due(NONE, "mark", 5, 2));
    }

    private static void markAnswers() {
        S.says("22: mark: 0 for the first one; what: 0 its chapter", x -> x.load("ch1:a;ch3:b a;ch5:b;term a;term b;")
                .due(1, "mark", 0, 0).due(3, "mark", 1, 0).due(3, "mark", 2, 0).due(5, "mark", 3, 0));
        S.says("22: what: 1 its place", x -> x.load("ch1:x a;ch3:b x x a;ch5:x x x b;term a;term b;")
                .due(1, "mark", 0, 1)
                .due(0, "mark", 1, 1).due(3, "mark", 2, 1).due(3, "mark", 3, 1));
        S.says("22: what: 2 its term", x -> x.load("ch1:a b;ch3:b a b;term a;term b;").due(0, "mark", 0, 2)
                .due(1, "mark", 1, 2).due(1, "mark", 2, 2).due(0, "mark", 3, 2));
    }
}
