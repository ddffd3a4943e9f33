/** The sentences of promises 6 to 9: addTerm, removeTerm, setQuiet, setBase. */
public final class Promises06To09Test {
    private static final int BAD = TermMarks.INVALID_ARGUMENT;
    private static final int ILLEGAL = TermMarks.ILLEGAL_STATE;
    private static final int FULL = TermMarks.CAPACITY_EXCEEDED;
    private static final int NONE = TermMarks.NONE;
    private static final int MIN = Integer.MIN_VALUE;
    private static final int MAX = Integer.MAX_VALUE;
    private static final Sentences S = new Sentences();

    public static void main(String[] args) {
        addRanges();
        addFollowing();
        addAlike();
        addAnswers();
        removing();
        removeAnswers();
        quieting();
        quietAnswers();
        baseRanges();
        baseForms();
        basesAndTerms();
        baseAnswers();
        S.end();
    }

    /** Two terms, the second one quiet, and a form in a chapter. */
    private static void some(Run x) {
        x.load("form e=b;ch1:a e c;term a b;term c;").does("setQuiet", 1, 1);
    }

    private static void addRanges() {
        S.says("6: first: a word", x -> x.due(BAD, "addTerm", -1, -1, -1, -1).due(BAD, "addTerm", 26, -1, -1, -1)
                .due(BAD, "addTerm", -2, -1, -1, -1).due(BAD, "addTerm", MIN, -1, -1, -1)
                .due(BAD, "addTerm", MAX, -1, -1, -1).due(0, "addTerm", 0, -1, -1, -1)
                .due(1, "addTerm", 25, -1, -1, -1));
        S.says("6: second: a word, or -1 if the term has one word", x -> x.due(BAD, "addTerm", 0, 26, -1, -1)
                .due(BAD, "addTerm", 0, -2, -1, -1).due(BAD, "addTerm", 0, MIN, -1, -1)
                .due(BAD, "addTerm", 0, MAX, -1, -1).due(BAD, "addTerm", 0, NONE, -1, -1)
                .due(0, "addTerm", 0, -1, -1, -1).due(1, "addTerm", 0, 0, -1, -1).due(2, "addTerm", 0, 25, -1, -1)
                .term(0, 0).term(1, 0, 0).term(2, 0, 25));
        S.says("6: third: a word, or -1 if the term has at most two words", x -> x.due(BAD, "addTerm", 0, 1, 26, -1)
                .due(BAD, "addTerm", 0, 1, -2, -1).due(BAD, "addTerm", 0, 1, MIN, -1).due(BAD, "addTerm", 0, 1, MAX, -1)
                .due(0, "addTerm", 0, 1, -1, -1).due(1, "addTerm", 0, 1, 0, -1).due(2, "addTerm", 0, 1, 25, -1)
                .term(0, 0, 1).term(1, 0, 1, 0).term(2, 0, 1, 25));
        S.says("6: fourth: a word, or -1 if the term has at most three words", x -> x.due(BAD, "addTerm", 0, 1, 2, 26)
                .due(BAD, "addTerm", 0, 1, 2, -2).due(BAD, "addTerm", 0, 1, 2, MIN).due(BAD, "addTerm", 0, 1, 2, MAX)
                .due(0, "addTerm", 0, 1, 2, -1).due(1, "addTerm", 0, 1, 2, 0).due(2, "addTerm", 0, 1, 2, 25)
                .term(0, 0, 1, 2).term(1, 0, 1, 2, 0).term(2, 0, 1, 2, 25));
        S.says("6: a word that only a text brings, up to the 60th", x -> x.due(BAD, "addTerm", 59, 59, 59, 59)
                .load(Texts.allWords()).due(BAD, "addTerm", 60, -1, -1, -1).due(BAD, "addTerm", 59, 60, -1, -1)
                .due(BAD, "addTerm", 59, 59, 60, -1).due(BAD, "addTerm", 59, 59, 59, 60)
                .due(0, "addTerm", 59, 59, 59, 59).term(0, 59, 59, 59, 59));
    }

    private static void addFollowing() {
        S.says("6: INVALID_ARGUMENT if a word follows on -1", x -> x.due(BAD, "addTerm", -1, 0, -1, -1)
                .due(BAD, "addTerm", -1, -1, 0, -1).due(BAD, "addTerm", -1, -1, -1, 0).due(BAD, "addTerm", -1, 0, 1, 2)
                .due(BAD, "addTerm", 0, -1, 1, -1).due(BAD, "addTerm", 0, -1, -1, 1).due(BAD, "addTerm", 0, -1, 1, 2)
                .due(BAD, "addTerm", 0, 1, -1, 2));
        S.says("6: INVALID_ARGUMENT if what follows on -1 is no word", x -> x.due(BAD, "addTerm", 0, -1, 26, -1)
                .due(BAD, "addTerm", 0, -1, -1, -2).due(BAD, "addTerm", 0, 1, -1, 26)
                .due(BAD, "addTerm", 0, -1, -2, -1));
    }

    private static void addAlike() {
        S.says("6: ILLEGAL_STATE if another term is like it", x -> {
            x.load("term a;term a b;term a b c;term a b c d;");
            x.due(ILLEGAL, "addTerm", 0, -1, -1, -1).due(ILLEGAL, "addTerm", 0, 1, -1, -1)
                    .due(ILLEGAL, "addTerm", 0, 1, 2, -1).due(ILLEGAL, "addTerm", 0, 1, 2, 3).due(4, "count", 2);
        });
        S.says("6: ILLEGAL_STATE if another term is like it by bases", x -> {
            x.load("form b=a;form c=a;term a a d b;");
            x.due(ILLEGAL, "addTerm", 1, 2, 3, 0).due(ILLEGAL, "addTerm", 2, 1, 3, 2).due(1, "addTerm", 3, 0, 0, 0);
        });
        S.says("6: ILLEGAL_STATE also if the other one is quiet", x -> x.load("term a;").does("setQuiet", 0, 1)
                .due(ILLEGAL, "addTerm", 0, -1, -1, -1));
        S.says("6: terms of other lengths, or with one other base, are not like it", x -> x.load("term b c d;")
                .due(1, "addTerm", 1, 2, -1, -1).due(2, "addTerm", 1, 2, 3, 3).due(3, "addTerm", 0, 2, 3, -1)
                .due(4, "addTerm", 1, 0, 3, -1).due(5, "addTerm", 1, 2, 0, -1).due(6, "addTerm", 1, 3, 2, -1)
                .due(7, "addTerm", 2, 3, -1, -1));
        S.says("6: a term that was removed is not like it", x -> x.load("term a;term b;").does("removeTerm", 1)
                .due(1, "addTerm", 1, -1, -1, -1).does("removeTerm", 0).due(1, "addTerm", 0, -1, -1, -1));
    }

    private static void addAnswers() {
        S.says("6: CAPACITY_EXCEEDED if there are 12 terms", x -> x.terms(12).due(FULL, "addTerm", 12, -1, -1, -1)
                .due(FULL, "addTerm", 0, 1, 2, 3).due(11, "removeTerm", 5).due(11, "addTerm", 12, -1, -1, -1)
                .due(FULL, "addTerm", 13, -1, -1, -1));
        S.says("6: INVALID_ARGUMENT is listed before ILLEGAL_STATE and CAPACITY_EXCEEDED", x -> x.terms(12)
                .due(BAD, "addTerm", 26, -1, -1, -1).due(BAD, "addTerm", 0, -1, 1, -1)
                .due(BAD, "addTerm", -1, -1, -1, -1)
                .due(BAD, "addTerm", 0, -2, -1, -1));
        S.says("6: ILLEGAL_STATE is listed before CAPACITY_EXCEEDED", x -> x.terms(12)
                .due(ILLEGAL, "addTerm", 11, -1, -1, -1).due(ILLEGAL, "addTerm", 0, -1, -1, -1));
        S.says("6: returns its number", x -> {
            x.terms(12);
            for (int term = 0; term < 12; term++) {
                x.term(term, term);
            }
            x.due(12, "count", 2);
        });
        S.says("6: a term has one word four times", x -> x.due(0, "addTerm", 7, 7, 7, 7).term(0, 7, 7, 7, 7));
        S.says("6: a term has its words, not their bases", x -> x.load("form b=a;").due(0, "addTerm", 1, 0, 1, -1)
                .term(0, 1, 0, 1));
        S.isAction("6: this is an action", Promises06To09Test::some, x -> x.due(2, "addTerm", 0, 1, 2, -1));
        S.changesNothing("6: an addTerm with no word changes nothing", Promises06To09Test::some, x -> x
                .due(BAD, "addTerm", 26, -1, -1, -1).due(BAD, "addTerm", 0, 26, -1, -1)
                .due(BAD, "addTerm", 0, 1, 26, -1).due(BAD, "addTerm", 0, 1, 2, 26)
                .due(BAD, "addTerm", -1, -1, -1, -1));
        S.changesNothing("6: a refused addTerm changes nothing", x -> x.terms(12), x -> x
                .due(BAD, "addTerm", 0, -1, 1, -1).due(ILLEGAL, "addTerm", 0, -1, -1, -1)
                .due(FULL, "addTerm", 12, -1, -1, -1));
    }

    private static void removing() {
        S.says("7: term: a term", x -> x.load("term a;term b;term c;").due(BAD, "removeTerm", -1)
                .due(BAD, "removeTerm", 3).due(BAD, "removeTerm", MIN).due(BAD, "removeTerm", MAX)
                .due(BAD, "removeTerm", NONE).due(2, "removeTerm", 2).due(BAD, "removeTerm", 2).due(1, "removeTerm", 0)
                .term(0, 1));
        S.says("7: INVALID_ARGUMENT if there is no such term, without terms", x -> x.due(BAD, "removeTerm", 0)
                .due(BAD, "removeTerm", -1));
        S.says("7: the term is not read any more, and what it hid is", x -> x.load("ch0:a b;term a b;term b;")
                .due(1, "removeTerm", 0).due(NONE, "place", 0, 0, 1).due(0, "place", 0, 1, 1).due(1, "count", 4));
    }

    private static void removeAnswers() {
        S.says("7: returns the number of terms then", x -> {
            x.terms(12);
            for (int left = 11; left >= 0; left--) {
                x.due(left, "removeTerm", left / 2);
            }
            x.due(0, "count", 2).due(BAD, "removeTerm", 0);
        });
        S.isAction("7: this is an action", Promises06To09Test::some, x -> x.due(1, "removeTerm", 0));
        S.isAction("7: this is an action, also for the last one, which is quiet", Promises06To09Test::some,
                x -> x.due(1, "removeTerm", 1));
        S.changesNothing("7: a refused removeTerm changes nothing", Promises06To09Test::some, x -> x
                .due(BAD, "removeTerm", 2).due(BAD, "removeTerm", -1));
    }

    private static void quieting() {
        S.says("8: term: a term", x -> x.due(BAD, "setQuiet", 0, 1).load("term a;term b;").due(BAD, "setQuiet", -1, 1)
                .due(BAD, "setQuiet", 2, 1).due(BAD, "setQuiet", MIN, 1).due(BAD, "setQuiet", MAX, 1)
                .due(0, "setQuiet", 1, 1).due(0, "term", 0, 5).due(1, "term", 1, 5)
                .due(0, "setQuiet", 0, 1).due(1, "term", 0, 5));
        S.says("8: quiet: 1 or 0", x -> x.load("term a;").due(BAD, "setQuiet", 0, 2).due(BAD, "setQuiet", 0, -1)
                .due(BAD, "setQuiet", 0, MIN).due(BAD, "setQuiet", 0, MAX).due(0, "term", 0, 5)
                .due(0, "setQuiet", 0, 1).due(1, "term", 0, 5).due(BAD, "setQuiet", 0, 2).due(1, "term", 0, 5)
                .due(0, "setQuiet", 0, 0).due(0, "term", 0, 5));
        S.says("8: makes the 12th term quiet", x -> x.terms(12).does("setQuiet", 11, 1).due(1, "term", 11, 5)
                .due(0, "term", 10, 5).due(BAD, "setQuiet", 12, 1).due(1, "count", 3));
    }

    private static void quietAnswers() {
        S.says("8: returns the number of marks then", x -> x.load("ch0:a b a;ch3:b;ch5:a;term a;term b;")
                .due(2, "setQuiet", 0, 1).due(0, "setQuiet", 1, 1).due(2, "setQuiet", 0, 0).due(4, "setQuiet", 1, 0)
                .due(4, "count", 4));
        S.says("8: a term that is quiet already", x -> x.load("ch0:a;term a;").due(1, "setQuiet", 0, 0)
                .due(0, "setQuiet", 0, 1).due(0, "setQuiet", 0, 1).due(1, "count", 3).due(4, "count", 8));
        S.isAction("8: this is an action", Promises06To09Test::some, x -> x.due(0, "setQuiet", 0, 1));
        S.isAction("8: this is an action, also back", Promises06To09Test::some, x -> x.due(2, "setQuiet", 1, 0));
        S.isAction("8: this is an action, also if nothing changes", Promises06To09Test::some,
                x -> x.due(1, "setQuiet", 1, 1));
        S.changesNothing("8: a refused setQuiet changes nothing", Promises06To09Test::some, x -> x
                .due(BAD, "setQuiet", 0, 2).due(BAD, "setQuiet", 2, 1).due(BAD, "setQuiet", 0, -1));
    }

    private static void baseRanges() {
        S.says("9: word: a word", x -> x.due(BAD, "setBase", -1, 0).due(BAD, "setBase", 26, 0)
                .due(BAD, "setBase", MIN, 0).due(BAD, "setBase", MAX, 0).due(BAD, "setBase", 26, 26)
                .due(BAD, "setBase", -1, -1).due(25, "setBase", 25, 1).due(0, "setBase", 0, 1));
        S.says("9: base: a word", x -> x.due(BAD, "setBase", 0, -1).due(BAD, "setBase", 0, 26)
                .due(BAD, "setBase", 0, MIN).due(BAD, "setBase", 0, MAX).due(2, "setBase", 2, 25)
                .due(3, "setBase", 3, 0)
                .due(25, "base", 2).due(0, "base", 3));
        S.says("9: also the 60th word, of a text", x -> x.due(BAD, "setBase", 59, 0).load(Texts.allWords())
                .due(59, "setBase", 59, 58).due(0, "setBase", 0, 58).due(BAD, "setBase", 60, 0)
                .due(BAD, "setBase", 0, 60));
        S.says("9: base: the word itself if it shall be no form", x -> x.due(0, "setBase", 0, 1).due(1, "count", 6)
                .due(1, "setBase", 0, 0).due(0, "base", 0).due(0, "count", 6).due(0, "setBase", 0, 0));
    }

    private static void baseForms() {
        S.says("9: ILLEGAL_STATE if base is a form of another word", x -> x.does("setBase", 1, 0)
                .due(ILLEGAL, "setBase", 2, 1).due(2, "base", 2).due(2, "setBase", 2, 0));
        S.says("9: ILLEGAL_STATE if base is a form of the word itself", x -> x.does("setBase", 1, 0)
                .due(ILLEGAL, "setBase", 0, 1).due(0, "base", 0));
        S.says("9: ILLEGAL_STATE if word has forms", x -> x.does("setBase", 1, 0).due(ILLEGAL, "setBase", 0, 2)
                .due(0, "base", 0).due(0, "setBase", 1, 1).due(0, "setBase", 0, 2));
        S.says("9: ILLEGAL_STATE if word has forms, the first of the words", x -> x.does("setBase", 0, 1)
                .due(ILLEGAL, "setBase", 1, 2).due(1, "base", 1).due(1, "base", 0));
        S.says("9: ILLEGAL_STATE if word has forms, the last of the words", x -> x.load(Texts.allWords())
                .does("setBase", 59, 58).due(ILLEGAL, "setBase", 58, 57).due(ILLEGAL, "setBase", 57, 59));
        S.says("9: possible if base is word, also for a form and for a word with forms", x -> x.does("setBase", 1, 0)
                .due(0, "setBase", 0, 0).due(0, "base", 1).due(0, "setBase", 1, 1).due(1, "base", 1));
        S.says("9: possible if word is a form of base already, or of another word", x -> x.does("setBase", 1, 0)
                .due(0, "setBase", 1, 0).due(0, "base", 1).due(0, "setBase", 1, 2).due(2, "base", 1)
                .due(1, "count", 6));
        S.says("9: a word is a base no more when its last form is gone", x -> x.does("setBase", 1, 0)
                .does("setBase", 2, 0)
                .does("setBase", 1, 3).due(ILLEGAL, "setBase", 0, 3).does("setBase", 2, 3).due(0, "setBase", 0, 3)
                .due(3, "count", 6));
    }

    private static void basesAndTerms() {
        S.says("9: ILLEGAL_STATE if two terms would be alike", x -> x.load("term a;term b;")
                .due(ILLEGAL, "setBase", 0, 1)
                .due(ILLEGAL, "setBase", 1, 0).due(0, "base", 0).due(1, "base", 1));
        S.says("9: two terms of four words would be alike by their last one", x -> x.load("term a b c d;term a b c e;")
                .due(ILLEGAL, "setBase", 4, 3).due(ILLEGAL, "setBase", 3, 4).due(3, "setBase", 3, 0));
        S.says("9: two terms would be alike by a word that stands in both", x -> x.load("term a b;term b a;")
                .due(ILLEGAL, "setBase", 0, 1).due(ILLEGAL, "setBase", 1, 0).due(0, "setBase", 0, 2));
        S.says("9: two terms would be alike by another form of the base", x -> x.load("form a=c;term a;term b;")
                .due(ILLEGAL, "setBase", 1, 2).due(2, "setBase", 0, 0).due(1, "setBase", 1, 2));
        S.says("9: two terms would be alike, the last ones and quiet", x -> x.terms(12).does("setQuiet", 10, 1)
                .does("setQuiet", 11, 1).due(ILLEGAL, "setBase", 11, 10).due(ILLEGAL, "setBase", 10, 0));
        S.says("9: terms of other lengths, or with one other base, would not be alike", x -> x
                .load("term a;term b c;term a d;term e c f;").due(0, "setBase", 0, 1).due(2, "setBase", 2, 12)
                .due(4, "setBase", 4, 1));
        S.says("9: a term that was removed is not alike any more", x -> x.load("term a;term b;").does("removeTerm", 1)
                .due(1, "setBase", 1, 0));
    }

    private static void baseAnswers() {
        S.says("9: returns the previous base", x -> x.due(3, "setBase", 3, 4).due(4, "setBase", 3, 5)
                .due(5, "setBase", 3, 5).due(5, "setBase", 3, 3).due(3, "setBase", 3, 3));
        S.says("9: INVALID_ARGUMENT is listed before ILLEGAL_STATE", x -> x.load("form b=a;term c;term d;")
                .due(BAD, "setBase", 0, 26).due(BAD, "setBase", 26, 1).due(BAD, "setBase", 0, -1));
        S.isAction("9: this is an action", Promises06To09Test::some, x -> x.due(0, "setBase", 0, 5));
        S.isAction("9: this is an action, also for a form", Promises06To09Test::some, x -> x.due(1, "setBase", 4, 4));
        S.isAction("9: this is an action, also if nothing changes", Promises06To09Test::some,
                x -> x.due(25, "setBase", 25, 25));
        S.changesNothing("9: a refused setBase changes nothing", x -> x
                .load("form b=a;ch0:a b c;term c;term d;"), x -> x
                .due(BAD, "setBase", 0, 26).due(ILLEGAL, "setBase", 5, 1).due(ILLEGAL, "setBase", 0, 5)
                .due(ILLEGAL, "setBase", 2, 3));
    }
}
