/** The sentences of the sections "What it is", "Words", "Chapters", "Terms", "Reading and marks" and "Errors". */
public final class SectionsTest {
    private static final int BAD = TermMarks.INVALID_ARGUMENT;
    private static final int ILLEGAL = TermMarks.ILLEGAL_STATE;
    private static final int FULL = TermMarks.CAPACITY_EXCEEDED;
    private static final int NONE = TermMarks.NONE;
    private static final int MIN = Integer.MIN_VALUE;
    private static final int MAX = Integer.MAX_VALUE;
    private static final Sentences S = new Sentences();

    public static void main(String[] args) {
        calls();
        words();
        wordBases();
        chapters();
        terms();
        alikeTerms();
        occurring();
        readings();
        readingsInOrder();
        marks();
        markNumbers();
        errors();
        wrapAround();
        S.end();
    }

    private static void calls() {
        S.says("What it is: an object is used for at most 512 calls, the dearest ones", x -> {
            x.terms(12);
            for (int chapter = 0; chapter < 6; chapter++) {
                x.fill(chapter, 0, 40, 12);
            }
            for (int calls = 12 + 240; calls < 510; calls += 2) {
                x.due(106, "gain", 12, -1, -1, -1).due(0, "greediest");
            }
            x.due(39, "delete", 5, 39, 39).due(4, "undo");
        });
        S.says("What it is: an object is used for at most 512 calls, all of them actions", x -> {
            for (int calls = 0; calls < 510; calls += 2) {
                x.due(1, "insert", 3, 0, 7).due(0, "delete", 3, 0, 0);
            }
            x.due(1, "insert", 3, 0, 8).due(5, "count", 8);
        });
    }

    private static void words() {
        S.says("Words: a word is a row of 1 letter", x -> x.load("ch0:a z;").due(26, "count", 0).row(0, 0, 25)
                .spelled(0, "a"));
        S.says("Words: a word is a row of 8 letters a to z", x -> x.load("ch0:abcdwxyz zyxwdcba;")
                .spelled(26, "abcdwxyz")
                .spelled(27, "zyxwdcba").error(4, "ch0:abcdwxyza;"));
        S.says("Words: words of 8 letters differ by their last one, and from shorter ones", x -> x
                .load("ch0:aaaaaaaa aaaaaaab aaaaaaa baaaaaaa;").row(0, 26, 27, 28, 29).load("ch1:aaaaaaab aaaaaaa;")
                .row(1, 27, 28));
        S.says("Words: the words 0 to 25 are there at first: each is a single letter, 0 is \"a\", 25 is \"z\"", x -> {
            for (int word = 0; word < 26; word++) {
                x.spelled(word, "" + (char) ('a' + word));
            }
            x.due(BAD, "letter", 26, 0).due(26, "count", 0);
        });
        S.says("Words: other words come from texts, from no other call", x -> x.due(BAD, "insert", 0, 0, 26)
                .due(BAD, "addTerm", 26, -1, -1, -1).due(BAD, "setBase", 26, 0).due(BAD, "replace", 0, 26)
                .due(26, "count", 0));
        S.says("Words: a word that is not there yet gets the next number", x -> x.load("ch0:bb aa;").spelled(26, "bb")
                .spelled(27, "aa").load("term aa cc bb;").spelled(28, "cc").term(0, 27, 28, 26).due(29, "count", 0));
        S.says("Words: a letter in a text is the word that is there", x -> x.load("ch0:c;term q;form x=y;").row(0, 2)
                .term(0, 16)
                .due(24, "base", 23).due(26, "count", 0));
        S.says("Words: there can be 60 words", x -> x.load(Texts.allWords()).due(60, "count", 0).spelled(59, "bh")
                .error(4, "ch1:bi;").due(60, "count", 0).due(BAD, "base", 60));
    }

    private static void wordBases() {
        S.says("Words: each word has a base, which is at first itself", x -> {
            for (int word = 0; word < 26; word++) {
                x.due(word, "base", word);
            }
            x.load("ch0:aa ab;").due(26, "base", 26).due(27, "base", 27);
        });
        S.says("Words: a word whose base is another word is a form of it", x -> x.does("setBase", 0, 1)
                .due(1, "count", 6)
                .load("ch0:a b;term b;").due(2, "term", 0, 6).due(0, "why", 0, 0, 0));
        S.says("Words: the base of a base is itself", x -> x.load("form b=a;form c=b;").due(0, "base", 2)
                .due(0, "base", 0)
                .due(ILLEGAL, "setBase", 3, 2).due(ILLEGAL, "setBase", 0, 3).due(0, "base", 0));
    }

    private static void chapters() {
        S.says("Chapters: there are 6 chapters, numbered from 0", x -> {
            for (int chapter = 0; chapter < 6; chapter++) {
                x.due(1, "insert", chapter, 0, chapter);
            }
            for (int chapter = 0; chapter < 6; chapter++) {
                x.row(chapter, chapter);
            }
            x.due(BAD, "insert", 6, 0, 0).due(BAD, "insert", -1, 0, 0);
        });
        S.says("Chapters: a chapter is a row of 0 words at first", x -> x.row(0).row(5).due(0, "count", 1));
        S.says("Chapters: a chapter is a row of up to 40 words", x -> {
            for (int place = 0; place < 40; place++) {
                x.due(place + 1, "insert", 2, place, place % 26);
            }
            x.due(FULL, "insert", 2, 40, 0).error(84, Texts.words("ch2:", 41, 'a') + ";");
            for (int place = 0; place < 40; place++) {
                x.due(place % 26, "place", 2, place, 0);
            }
        });
        S.says("Chapters: at places from 0", x -> x.load("ch0:c d;").due(2, "place", 0, 0, 0).due(3, "place", 0, 1, 0)
                .due(BAD, "place", 0, -1, 0));
    }

    private static void terms() {
        S.says("Terms: there are at most 12 terms", x -> x.terms(12).due(FULL, "addTerm", 12, -1, -1, -1)
                .error(6, "term m;")
                .due(12, "count", 2));
        S.says("Terms: numbered from 0 in the order in which they were added", x -> x.load("term d;term c b;")
                .does("addTerm", 1, -1, -1, -1)
                .load("term a;").term(0, 3).term(1, 2, 1).term(2, 1).term(3, 0));
        S.says("Terms: if the first one is removed, the numbers of those behind it become smaller by 1", x -> x
                .load("term a;term b c;term d e f;term g h i j;").does("setQuiet", 3, 1).does("removeTerm", 0)
                .term(0, 1, 2)
                .term(1, 3, 4, 5).term(2, 6, 7, 8, 9).due(0, "term", 0, 5).due(0, "term", 1, 5).due(1, "term", 2, 5)
                .due(BAD, "term", 3, 0));
        S.says("Terms: if one between others is removed, those before it keep their numbers", x -> x
                .load("term a;term b c;term d;term e f;").does("setQuiet", 0, 1).does("setQuiet", 2, 1)
                .does("removeTerm", 1)
                .term(0, 0).term(1, 3).term(2, 4, 5).due(1, "term", 0, 5).due(1, "term", 1, 5).due(0, "term", 2, 5));
        S.says("Terms: if the last one is removed, the others keep their numbers", x -> x
                .load("term a;term b c;term d;")
                .does("removeTerm", 2).term(0, 0).term(1, 1, 2).due(BAD, "term", 2, 0).due(2, "addTerm", 4, -1, -1, -1)
                .term(2, 4));
        S.says("Terms: if the last one of 12 is removed", x -> x.terms(12).does("removeTerm", 11)
                .due(BAD, "term", 11, 0)
                .term(10, 10).due(11, "addTerm", 20, -1, -1, -1).term(11, 20));
        S.says("Terms: a term is a row of 1 to 4 words", x -> x.due(BAD, "addTerm", -1, -1, -1, -1)
                .due(0, "addTerm", 0, -1, -1, -1).due(1, "addTerm", 0, 1, 2, 3).error(4, "term;")
                .error(13, "term d c b a e;")
                .term(0, 0).term(1, 0, 1, 2, 3));
        S.says("Terms: is quiet or not (at first), also where a quiet one was", x -> x.load("term a;term b;")
                .due(0, "term", 0, 5)
                .does("setQuiet", 1, 1).does("removeTerm", 1).does("addTerm", 1, -1, -1, -1).due(0, "term", 1, 5)
                .does("setQuiet", 1, 1).does("removeTerm", 1).load("term c;").due(0, "term", 1, 5));
    }

    private static void alikeTerms() {
        S.says("Terms: alike if they have as many words, and the bases of these are the same, one by one", x -> x
                .load("form e=a;term a b c d;").due(ILLEGAL, "addTerm", 0, 1, 2, 3).due(ILLEGAL, "addTerm", 4, 1, 2, 3)
                .due(1, "addTerm", 5, 1, 2, 3).due(2, "addTerm", 0, 5, 2, 3).due(3, "addTerm", 0, 1, 5, 3)
                .due(4, "addTerm", 0, 1, 2, 5).due(5, "addTerm", 3, 2, 1, 0).due(6, "addTerm", 0, 1, 2, -1));
        S.says("Terms: no two terms are alike, whichever call would make them so", x -> x.load("term a;term b;")
                .due(ILLEGAL, "addTerm", 0, -1, -1, -1).due(ILLEGAL, "setBase", 0, 1).error(6, "term a;")
                .error(8, "form a=b;")
                .due(ILLEGAL, "gain", 1, -1, -1, -1));
    }

    private static void occurring() {
        S.says("Terms: a term occurs if, from this place on, the bases are the same", x -> x
                .load("form b=a;form c=a;ch0:b d c d a e;term a d;term c e;").due(2, "term", 0, 7).due(1, "term", 1, 7)
                .due(0, "why", 0, 0, 0).due(5, "why", 0, 2, 0).due(1, "why", 0, 4, 0).due(0, "why", 0, 4, 1));
        S.says("Terms: as many words of the chapter as it has, at the chapter's end", x -> x
                .load("ch0:a b c d;ch1:a b c;term a b c d;term c d;").due(1, "term", 0, 7).due(1, "term", 1, 7)
                .due(1, "why", 1, 0, 0).due(1, "why", 1, 2, 1));
        S.says("Terms: not beyond the words that the chapter had", x -> x.load("ch0:a b;term a b;")
                .does("delete", 0, 1, 1)
                .due(0, "term", 0, 7).due(0, "count", 4).load("ch0:a;").due(0, "term", 0, 7));
        S.says("Terms: not from one chapter into the next one", x -> x.fill(0, 0, 40, 0).load("ch1:b;term a b;")
                .due(0, "term", 0, 7).due(1, "why", 0, 39, 0));
        S.says("Terms: up to the last of 40 places", x -> x.fill(0, 0, 36, 0).load("term b c d e;")
                .does("insert", 0, 36, 1)
                .does("insert", 0, 37, 2).does("insert", 0, 38, 3).due(0, "term", 0, 7).does("insert", 0, 39, 4)
                .due(1, "term", 0, 7).due(36, "firstUse", 0, 0));
    }

    private static void readings() {
        S.says("Reading: a chapter is read from its place 0 on", x -> x.load("ch0:a b a b a;term a b;term b a;")
                .due(2, "term", 0, 6).due(0, "term", 1, 6).due(0, "place", 0, 0, 1));
        S.says("Reading: the longest one of the terms that occur is read", x -> x
                .load("ch0:a b c d;ch1:a b c;ch2:a b;ch3:a;term a b;term a b c d;term a;term a b c;")
                .due(1, "place", 0, 0, 1)
                .due(3, "place", 1, 0, 1).due(0, "place", 2, 0, 1).due(2, "place", 3, 0, 1).due(4, "count", 5));
        S.says("Reading: the longest one, also if it is quiet", x -> x.load("ch0:a b;term a;term a b;")
                .does("setQuiet", 1, 1)
                .due(1, "place", 0, 0, 1).due(0, "count", 4));
        S.says("Reading: the longest one that occurs, not the longest one there is", x -> x
                .load("ch0:a b x;term a;term a b c;")
                .due(0, "place", 0, 0, 1).due(NONE, "place", 0, 1, 1));
        S.says("Reading: goes on behind its words", x -> x.load("ch0:a b c d e;term a b c;term c d e;term b;term d;")
                .due(NONE, "firstUse", 1, 0).due(NONE, "firstUse", 2, 0).due(3, "firstUse", 3, 0).due(2, "count", 5));
        S.says("Reading: goes on directly behind its words", x -> x.load("ch0:a a a a a;term a a;").due(2, "term", 0, 6)
                .due(1, "place", 0, 3, 2).due(NONE, "place", 0, 4, 1));
    }

    private static void readingsInOrder() {
        S.says("Reading: otherwise the reading goes on with the next place", x -> x.load("ch0:x y b z b;term b;")
                .due(NONE, "place", 0, 0, 1).due(NONE, "place", 0, 1, 1).due(0, "place", 0, 2, 1)
                .due(0, "place", 0, 4, 1));
        S.says("Reading: a longer term that begins inside of another reading is not read", x -> x
                .load("ch0:a b c d e;term a b;term b c d e;").due(0, "place", 0, 1, 1).due(NONE, "place", 0, 2, 1)
                .due(0, "term", 1, 6).due(1, "term", 1, 7));
        S.says("Reading: each chapter is read by itself", x -> x.load("ch0:a;ch1:b a b;ch2:b;term a b;")
                .due(1, "term", 0, 6)
                .due(1, "firstUse", 0, 1).due(NONE, "place", 2, 0, 1));
        S.says("Reading: a chapter without words has no readings", x -> x.load("term a;").due(0, "count", 5)
                .due(0, "count", 4)
                .due(NONE, "firstUse", 0, 0));
        S.says("Reading: it goes by what is there now", x -> x.load("ch0:a b;term a b;").due(1, "count", 5)
                .does("setBase", 2, 1)
                .does("replace", 1, 2).due(1, "count", 5).does("setBase", 2, 2).due(0, "count", 5).does("undo")
                .due(1, "count", 5).does("insert", 0, 1, 3).due(0, "count", 5).does("delete", 0, 1, 1)
                .due(1, "count", 5));
    }

    private static void marks() {
        S.says("Marks: for each term that is not quiet", x -> x.load("ch0:a b;term a;term b;").due(2, "count", 4)
                .does("setQuiet", 0, 1).due(1, "count", 4).due(0, "place", 0, 0, 3).due(1, "place", 0, 1, 3)
                .does("setQuiet", 1, 1).due(0, "count", 4).due(2, "count", 5));
        S.says("Marks: the first place of each chapter at which it is read", x -> x
                .load("ch0:b a a;ch1:a b a;ch3:b;ch5:a;term a;")
                .due(3, "count", 4).due(1, "place", 0, 1, 3).due(0, "place", 0, 2, 3).due(1, "place", 1, 0, 3)
                .due(0, "place", 1, 2, 3).due(1, "place", 5, 0, 3));
        S.says("Marks: at which it is read, not inside another term", x -> x.load("ch0:b a b a;term a;term b a b;")
                .due(0, "place", 0, 1, 3).due(1, "place", 0, 3, 3).due(3, "mark", 1, 1).due(2, "count", 4));
        S.says("Marks: so a chapter can have several marks, 12", x -> x.terms(12)
                .load("ch4:l k j i h g f e d c b a a l;")
                .due(12, "count", 4).due(1, "place", 4, 11, 3).due(0, "place", 4, 12, 3));
        S.says("Marks: a mark is at the first word of its reading alone", x -> x.load("ch0:a b c d;term a b c d;")
                .due(1, "place", 0, 0, 3).due(0, "place", 0, 1, 3).due(0, "place", 0, 2, 3).due(0, "place", 0, 3, 3));
    }

    private static void markNumbers() {
        S.says("Marks: numbered from 0, by ascending chapters", x -> x.load("ch5:a;ch3:a;ch0:b;ch1:b a;term b;term a;")
                .due(0, "mark", 0, 0).due(1, "mark", 1, 0).due(1, "mark", 2, 0).due(3, "mark", 3, 0)
                .due(5, "mark", 4, 0)
                .due(NONE, "mark", 5, 0));
        S.says("Marks: in each chapter by ascending places, not by terms", x -> x
                .load("ch2:c x b x a;term a;term b;term c;")
                .due(0, "mark", 0, 1).due(2, "mark", 1, 1).due(4, "mark", 2, 1).due(2, "mark", 0, 2)
                .due(1, "mark", 1, 2)
                .due(0, "mark", 2, 2));
    }

    /** A full chapter, a term, a form and a snapshot, and a text with an error. */
    private static void full(Run x) {
        x.fill(0, 0, 40, 3).load("form b=a;term a;").does("take", 1).type("ch0:ab;ch6:;");
    }

    private static void errors() {
        S.says("Errors: the constants", x -> {
            int[] constants = {TermMarks.INVALID_ARGUMENT, TermMarks.ILLEGAL_STATE, TermMarks.CAPACITY_EXCEEDED,
                TermMarks.NONE};
            int[] due = {-1, -2, -3, -99};
            for (int i = 0; i < due.length; i++) {
                if (constants[i] != due[i]) {
                    S.broken("constant " + i + " is " + constants[i] + ", due is " + due[i]);
                }
            }
        });
        S.changesNothing("Errors: a call that returns an error code changes nothing, an action",
                SectionsTest::full, x -> x.due(FULL, "insert", 0, 0, 0).due(BAD, "delete", 0, 1, 0)
                .due(BAD, "replace", 0, 0)
                .due(BAD, "swap", 0, 6)
                .due(ILLEGAL, "addTerm", 1, -1, -1, -1).due(BAD, "removeTerm", 1).due(BAD, "setQuiet", 0, 2)
                .due(ILLEGAL, "setBase", 0, 2).due(BAD, "take", 2).due(ILLEGAL, "restore", 0).due(-1009, "load")
                .due(BAD, "append", 0));
        S.changesNothing("Errors: a call that returns an error code changes nothing, a look",
                SectionsTest::full, x -> x.due(BAD, "count", 10).due(BAD, "letter", 26, 0).due(BAD, "base", 26)
                .due(BAD, "place", 6, 0, 0)
                .due(BAD, "term", 1, 0).due(BAD, "firstUse", 1, 0).due(BAD, "mark", -1, 0).due(BAD, "why", 1, 0, 0)
                .due(BAD, "nested", 0, 1).due(ILLEGAL, "gain", 1, -1, -1, -1));
        S.says("Errors: NONE is returned only if no error condition applies", x -> x.due(BAD, "letter", 26, 1)
                .due(BAD, "letter", 0, -1).due(BAD, "place", 0, 0, 4).due(BAD, "place", 0, -1, 0).due(BAD, "mark", 0, 3)
                .due(BAD, "firstUse", 0, 0).due(BAD, "term", 0, 4).due(NONE, "letter", 0, 1).due(NONE, "place", 0, 0, 3)
                .due(NONE, "mark", 0, 2).due(NONE, "greediest"));
    }

    private static void wrapAround() {
        S.says("Errors: arguments near the ends of int are out of range, in chapters", x -> x
                .load("ch0:a b c;ch1:a;term a;")
                .due(BAD, "insert", 0, MAX, 0).due(BAD, "insert", 0, MIN, 0).due(BAD, "insert", MAX, MAX, MAX)
                .due(BAD, "insert", MIN, MIN, MIN).due(BAD, "delete", 0, MIN, MAX).due(BAD, "delete", 0, MAX, MIN)
                .due(BAD, "delete", 0, 0, MAX).due(BAD, "delete", 0, MIN, 0).due(BAD, "delete", 0, MAX, MAX)
                .due(BAD, "replace", MIN, MAX).due(BAD, "swap", MAX, MIN).row(0, 0, 1, 2));
        S.says("Errors: arguments near the ends of int are out of range, in terms and bases", x -> x
                .load("ch0:a b;term a;")
                .due(BAD, "addTerm", MAX, MIN, MAX, MIN).due(BAD, "addTerm", 0, MIN, -1, -1).due(BAD, "removeTerm", MIN)
                .due(BAD, "setQuiet", MAX, MIN).due(BAD, "setBase", MIN, MIN).due(BAD, "take", MIN)
                .due(BAD, "restore", MAX).due(BAD, "append", MAX));
        S.says("Errors: arguments near the ends of int are out of range, in looking", x -> x.load("ch0:a b;term a;")
                .due(BAD, "count", MIN).due(BAD, "letter", MAX, MAX).due(BAD, "letter", MIN, MIN).due(BAD, "base", MIN)
                .due(BAD, "place", MIN, MIN, MIN).due(NONE, "place", 0, MAX, 3).due(BAD, "term", MIN, MAX)
                .due(BAD, "firstUse", MAX, MAX).due(BAD, "mark", MIN, 0).due(NONE, "mark", MAX, 2)
                .due(BAD, "why", 0, MAX, 0).due(BAD, "why", MIN, 0, MIN).due(BAD, "nested", MAX, MAX)
                .due(BAD, "gain", MIN, MAX, MIN, MAX));
        S.says("Errors: numbers that are right but for 2 to the 8th, 16th or 31st are out of range", x -> x
                .load("ch0:a b;term a;")
                .due(BAD, "insert", 256, 0, 0).due(BAD, "insert", 65536, 0, 0).due(BAD, "insert", 0, 256, 0)
                .due(BAD, "insert", 0, 0, 256).due(BAD, "insert", 0, 0, 65536).due(BAD, "insert", MIN, 0, 0)
                .due(BAD, "append", 256 + ';').due(BAD, "append", 65536 + ';').due(BAD, "append", MIN + ';')
                .due(BAD, "term", 256, 0).due(BAD, "place", 0, 0, 256).due(NONE, "letter", 0, 256)
                .due(NONE, "place", 0, 65536, 0).due(NONE, "mark", 65536, 0));
    }
}
