/** Promises 16 to 22: count, letter, base, place, term, firstUse, mark. */
public final class LookingTest {
    private static final Check CHECK = new Check();
    private static final int BAD = TermMarks.INVALID_ARGUMENT;
    private static final int NONE = TermMarks.NONE;

    public static void main(String[] args) {
        counts();
        letters();
        bases();
        places();
        placesWrong();
        reading();
        terms();
        firstUses();
        marks();
        lookingChangesNothing();
        CHECK.end();
    }

    /**
     * Terms: 0 "c", 1 "a b", 2 "b c d" (quiet), 3 "d"; "e" is a form of "b".
     * Chapter 0: a e c d b c d d; chapter 2: b c a b c; chapter 5: c x c.
     */
    private static TermMarks sample() {
        TermMarks x = Check.loaded("form e=b;ch0:a e c d b c d d;ch2:b c a b c;ch5:c x c;",
                "term c;term a b;term b c d;term d;");
        x.setQuiet(2, 1);
        return x;
    }

    private static void counts() {
        TermMarks x = sample();
        x.take(1);
        Check.type(x, "ch");
        // Readings: ch0 "a e", "c", "d", "b c d", "d"; ch2 "c", "a b", "c"; ch5 "c", "c".
        int[] due = {26, 16, 4, 1, 6, 10, 1, 1, 4, 2};
        for (int what = 0; what < due.length; what++) {
            CHECK.due("count(" + what + ")", x.count(what), due[what]);
        }
        CHECK.due("count(-1)", x.count(-1), BAD);
        CHECK.due("count(10)", x.count(10), BAD);
        CHECK.due("count(min)", x.count(Integer.MIN_VALUE), BAD);
        CHECK.due("count(max)", x.count(Integer.MAX_VALUE), BAD);
        Check.load(x, "term abc;ch1:foo c;");
        CHECK.due("count(0) after a load", x.count(0), 28);
        CHECK.due("count(4) after a load", x.count(4), 7);
        CHECK.due("count(8) after a load", x.count(8), 5);
    }

    private static void letters() {
        TermMarks x = Check.loaded("ch0:abcdefgh zyx;");
        for (int index = 0; index < 8; index++) {
            CHECK.due("letter(26, " + index + ")", x.letter(26, index), 'a' + index);
        }
        CHECK.due("letter(26, 8)", x.letter(26, 8), NONE);
        CHECK.due("letter(27, 0)", x.letter(27, 0), 'z');
        CHECK.due("letter(27, 2)", x.letter(27, 2), 'x');
        CHECK.due("letter(27, 3)", x.letter(27, 3), NONE);
        CHECK.due("letter(25, 0)", x.letter(25, 0), 'z');
        CHECK.due("letter(25, max)", x.letter(25, Integer.MAX_VALUE), NONE);
        CHECK.due("letter(26, 64)", x.letter(26, 64), NONE);
        CHECK.due("letter(28, 0)", x.letter(28, 0), BAD);
        CHECK.due("letter(-1, 0)", x.letter(-1, 0), BAD);
        CHECK.due("letter(0, -1)", x.letter(0, -1), BAD);
        CHECK.due("letter(28, -1)", x.letter(28, -1), BAD);
        CHECK.due("letter(min, max)", x.letter(Integer.MIN_VALUE, Integer.MAX_VALUE), BAD);
        CHECK.due("letter(max, min)", x.letter(Integer.MAX_VALUE, Integer.MIN_VALUE), BAD);
    }

    private static void bases() {
        TermMarks x = Check.loaded("form cats=cat;");
        CHECK.due("base(26)", x.base(26), 27);
        CHECK.due("base(27)", x.base(27), 27);
        CHECK.due("base(0)", x.base(0), 0);
        CHECK.due("base(28)", x.base(28), BAD);
        CHECK.due("base(-1)", x.base(-1), BAD);
        CHECK.due("base(max)", x.base(Integer.MAX_VALUE), BAD);
        CHECK.due("base(min)", x.base(Integer.MIN_VALUE), BAD);
    }

    private static void places() {
        TermMarks x = sample();
        int[][] due = {
            {0, 1, 0, 1}, {4, 1, 1, 0}, {2, 0, 0, 1}, {3, 3, 0, 1},
            {1, 2, 0, 0}, {2, 2, 1, 0}, {3, 2, 2, 0}, {3, 3, 0, 0}, {NONE, NONE, NONE, NONE}};
        for (int place = 0; place < due.length; place++) {
            for (int what = 0; what < 4; what++) {
                CHECK.due("place(0, " + place + ", " + what + ")", x.place(0, place, what), due[place][what]);
            }
        }
        int[][] two = {{1, NONE, NONE, 0}, {2, 0, 0, 1}, {0, 1, 0, 1}, {1, 1, 1, 0}, {2, 0, 0, 0}};
        for (int place = 0; place < two.length; place++) {
            for (int what = 0; what < 4; what++) {
                CHECK.due("place(2, " + place + ", " + what + ")", x.place(2, place, what), two[place][what]);
            }
        }
        CHECK.due("place(5, 1, 1)", x.place(5, 1, 1), NONE);
        TermMarks y = Check.loaded("term a;term b;ch0:a b;");
        CHECK.due("place(0, 1, 3)", y.place(0, 1, 3), 1);
        y.setQuiet(1, 1);
        CHECK.due("place(0, 1, 3) of a term that became quiet", y.place(0, 1, 3), 0);
    }

    private static void placesWrong() {
        TermMarks x = sample();
        CHECK.due("place(-1, 0, 0)", x.place(-1, 0, 0), BAD);
        CHECK.due("place(6, 0, 0)", x.place(6, 0, 0), BAD);
        CHECK.due("place(0, -1, 0)", x.place(0, -1, 0), BAD);
        CHECK.due("place(0, 0, -1)", x.place(0, 0, -1), BAD);
        CHECK.due("place(0, 0, 4)", x.place(0, 0, 4), BAD);
        CHECK.due("place(0, 99, 4)", x.place(0, 99, 4), BAD);
        CHECK.due("place(6, 99, 0)", x.place(6, 99, 0), BAD);
        CHECK.due("place(0, max, 0)", x.place(0, Integer.MAX_VALUE, 0), NONE);
        CHECK.due("place(0, max, 3)", x.place(0, Integer.MAX_VALUE, 3), NONE);
        CHECK.due("place(0, 40, 1)", x.place(0, 40, 1), NONE);
        CHECK.due("place(1, 0, 2)", x.place(1, 0, 2), NONE);
        CHECK.due("place(0, min, 0)", x.place(0, Integer.MIN_VALUE, 0), BAD);
        CHECK.due("place(max, 0, 0)", x.place(Integer.MAX_VALUE, 0, 0), BAD);
    }

    /** The longest term is read, and a reading goes on behind its words. */
    private static void reading() {
        TermMarks x = Check.loaded("term a a;ch0:a a a;");
        CHECK.due("place(0, 1, 2)", x.place(0, 1, 2), 1);
        CHECK.due("place(0, 2, 1)", x.place(0, 2, 1), NONE);
        CHECK.due("occurrences", x.term(0, 7), 2);
        CHECK.due("readings", x.term(0, 6), 1);
        // A term that would begin inside of another one is not read, even if it is longer.
        x = Check.loaded("term a b;term b c d e;term c;ch0:a b c d e;");
        CHECK.due("place(0, 1, 1)", x.place(0, 1, 1), 0);
        CHECK.due("place(0, 2, 1)", x.place(0, 2, 1), 2);
        CHECK.due("place(0, 3, 1)", x.place(0, 3, 1), NONE);
        // A quiet term is read all the same and hides what is inside of it.
        x.setQuiet(0, 1);
        CHECK.due("place(0, 1, 1) under a quiet term", x.place(0, 1, 1), 0);
        CHECK.due("place(0, 0, 3) of a quiet term", x.place(0, 0, 3), 0);
        // Readings end at the end of a chapter.
        x = Check.loaded("term a b;term a;ch0:b a;ch1:b a;");
        CHECK.due("place(0, 1, 1)", x.place(0, 1, 1), 1);
        CHECK.due("occurrences of a b", x.term(0, 7), 0);
        x = Check.loaded("term a;term a b;term a b c;term a b c d;ch0:a b c d;ch1:a b c;ch2:a b;ch3:a;");
        for (int chapter = 0; chapter < 4; chapter++) {
            CHECK.due("the longest in chapter " + chapter, x.place(chapter, 0, 1), 3 - chapter);
        }
        CHECK.due("readings of all", x.count(5), 4);
    }

    private static void terms() {
        TermMarks x = sample();
        int[][] due = {
            {1, 2, NONE, NONE, NONE, 0, 5, 6, 3},
            {2, 0, 1, NONE, NONE, 0, 2, 2, 2},
            {3, 1, 2, 3, NONE, 1, 1, 2, 0},
            {1, 3, NONE, NONE, NONE, 0, 2, 3, 1}};
        for (int term = 0; term < due.length; term++) {
            for (int what = 0; what < due[term].length; what++) {
                CHECK.due("term(" + term + ", " + what + ")", x.term(term, what), due[term][what]);
            }
        }
        x.addTerm(4, 5, 6, 7);
        CHECK.due("a term keeps its words, not their bases", x.term(4, 1), 4);
        CHECK.due("term(4, 4)", x.term(4, 4), 7);
        CHECK.due("term(-1, 0)", x.term(-1, 0), BAD);
        CHECK.due("term(5, 0)", x.term(5, 0), BAD);
        CHECK.due("term(0, -1)", x.term(0, -1), BAD);
        CHECK.due("term(0, 9)", x.term(0, 9), BAD);
        CHECK.due("term(max, 0)", x.term(Integer.MAX_VALUE, 0), BAD);
        CHECK.due("term(0, min)", x.term(0, Integer.MIN_VALUE), BAD);
    }

    private static void firstUses() {
        TermMarks x = sample();
        int[][] due = {{2, NONE, 1, NONE, NONE, 0}, {0, NONE, 2, NONE, NONE, NONE},
            {4, NONE, NONE, NONE, NONE, NONE}, {3, NONE, NONE, NONE, NONE, NONE}};
        for (int term = 0; term < due.length; term++) {
            for (int chapter = 0; chapter < 6; chapter++) {
                CHECK.due("firstUse(" + term + ", " + chapter + ")", x.firstUse(term, chapter), due[term][chapter]);
            }
        }
        CHECK.due("firstUse(-1, 0)", x.firstUse(-1, 0), BAD);
        CHECK.due("firstUse(4, 0)", x.firstUse(4, 0), BAD);
        CHECK.due("firstUse(0, -1)", x.firstUse(0, -1), BAD);
        CHECK.due("firstUse(0, 6)", x.firstUse(0, 6), BAD);
        CHECK.due("firstUse(max, min)", x.firstUse(Integer.MAX_VALUE, Integer.MIN_VALUE), BAD);
        x.removeTerm(0);
        CHECK.due("firstUse(0, 2) when one is gone", x.firstUse(0, 2), 2);
        CHECK.due("place(5, 0, 3) when one is gone", x.place(5, 0, 3), 0);
        CHECK.due("place(2, 2, 3) when one is gone", x.place(2, 2, 3), 1);
    }

    private static void marks() {
        TermMarks x = sample();
        int[][] due = {{0, 0, 1}, {0, 2, 0}, {0, 3, 3}, {2, 1, 0}, {2, 2, 1}, {5, 0, 0}};
        CHECK.due("marks", x.count(4), due.length);
        for (int mark = 0; mark < due.length; mark++) {
            for (int what = 0; what < 3; what++) {
                CHECK.due("mark(" + mark + ", " + what + ")", x.mark(mark, what), due[mark][what]);
            }
        }
        CHECK.due("mark(6, 0)", x.mark(6, 0), NONE);
        CHECK.due("mark(6, 2)", x.mark(6, 2), NONE);
        CHECK.due("mark(max, 0)", x.mark(Integer.MAX_VALUE, 0), NONE);
        CHECK.due("mark(-1, 0)", x.mark(-1, 0), BAD);
        CHECK.due("mark(0, -1)", x.mark(0, -1), BAD);
        CHECK.due("mark(0, 3)", x.mark(0, 3), BAD);
        CHECK.due("mark(6, 3)", x.mark(6, 3), BAD);
        CHECK.due("mark(min, 0)", x.mark(Integer.MIN_VALUE, 0), BAD);
        mostMarks();
    }

    /** Twelve terms in each of six chapters. */
    private static void mostMarks() {
        TermMarks x = new TermMarks();
        for (int word = 0; word < 12; word++) {
            x.addTerm(word, -1, -1, -1);
        }
        for (int chapter = 0; chapter < 6; chapter++) {
            Check.load(x, "ch" + chapter + ":l k j i h g f e d c b a a b c;");
        }
        CHECK.due("the most marks", x.count(4), 72);
        CHECK.due("the most marks' last chapter", x.mark(71, 0), 5);
        CHECK.due("the most marks' last place", x.mark(71, 1), 11);
        CHECK.due("the most marks' last term", x.mark(71, 2), 0);
        CHECK.due("mark(72, 0)", x.mark(72, 0), NONE);
        CHECK.due("gain at the most marks", x.gain(0, 1, -1, -1), 106);
    }

    private static void lookingChangesNothing() {
        TermMarks x = sample();
        TermMarks other = sample();
        x.why(0, 0, 1);
        x.nested(0, 2);
        x.gain(0, 1, 2, -1);
        x.gain(25, -1, -1, -1);
        x.greediest();
        CHECK.same("looking", Check.whole(x), Check.whole(other));
    }
}
