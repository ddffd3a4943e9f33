/** Promises 6 to 9: addTerm, removeTerm, setQuiet, setBase. */
public final class TermsTest {
    private static final Check CHECK = new Check();
    private static final int BAD = TermMarks.INVALID_ARGUMENT;
    private static final int ILLEGAL = TermMarks.ILLEGAL_STATE;

    public static void main(String[] args) {
        addTerms();
        addWrong();
        addFull();
        removeTerms();
        quietTerms();
        bases();
        basesAndTerms();
        CHECK.end();
    }

    private static void addTerms() {
        TermMarks x = Check.loaded("ch0:a b c d;");
        CHECK.due("addTerm(0, 1, 2, 3)", x.addTerm(0, 1, 2, 3), 0);
        CHECK.due("addTerm(0, 1, 2, -1)", x.addTerm(0, 1, 2, -1), 1);
        CHECK.due("addTerm(0, 1, -1, -1)", x.addTerm(0, 1, -1, -1), 2);
        CHECK.due("addTerm(25, -1, -1, -1)", x.addTerm(25, -1, -1, -1), 3);
        CHECK.due("addTerm(1, 0, -1, -1)", x.addTerm(1, 0, -1, -1), 4);
        CHECK.due("count(8)", x.count(8), 5);
        int[][] due = {{4, 0, 1, 2, 3, 0}, {3, 0, 1, 2, -99, 0}, {2, 0, 1, -99, -99, 0}, {1, 25, -99, -99, -99, 0}};
        for (int term = 0; term < due.length; term++) {
            for (int what = 0; what < due[term].length; what++) {
                CHECK.due("term(" + term + ", " + what + ")", x.term(term, what), due[term][what]);
            }
        }
        CHECK.due("addTerm(3, 3, 3, 3)", x.addTerm(3, 3, 3, 3), 5);
        CHECK.due("undo()", x.undo(), 4);
        CHECK.due("terms after undo", x.count(2), 5);
    }

    private static void addWrong() {
        TermMarks x = Check.loaded("form b=a;term a c;");
        String before = Check.whole(x);
        CHECK.due("addTerm(-1, -1, -1, -1)", x.addTerm(-1, -1, -1, -1), BAD);
        CHECK.due("addTerm(-1, 0, -1, -1)", x.addTerm(-1, 0, -1, -1), BAD);
        CHECK.due("addTerm(0, -1, 1, -1)", x.addTerm(0, -1, 1, -1), BAD);
        CHECK.due("addTerm(0, -1, -1, 1)", x.addTerm(0, -1, -1, 1), BAD);
        CHECK.due("addTerm(0, 1, -1, 1)", x.addTerm(0, 1, -1, 1), BAD);
        CHECK.due("addTerm(-2, -1, -1, -1)", x.addTerm(-2, -1, -1, -1), BAD);
        CHECK.due("addTerm(26, -1, -1, -1)", x.addTerm(26, -1, -1, -1), BAD);
        CHECK.due("addTerm(0, 26, -1, -1)", x.addTerm(0, 26, -1, -1), BAD);
        CHECK.due("addTerm(0, -2, -1, -1)", x.addTerm(0, -2, -1, -1), BAD);
        CHECK.due("addTerm(0, 0, 26, -1)", x.addTerm(0, 0, 26, -1), BAD);
        CHECK.due("addTerm(0, 0, -2, -1)", x.addTerm(0, 0, -2, -1), BAD);
        CHECK.due("addTerm(0, 0, 0, 26)", x.addTerm(0, 0, 0, 26), BAD);
        CHECK.due("addTerm(0, 0, 0, -2)", x.addTerm(0, 0, 0, -2), BAD);
        CHECK.due("addTerm(0, 2, -1, -2)", x.addTerm(0, 2, -1, -2), BAD);
        CHECK.due("addTerm(0, max, min, -99)", x.addTerm(0, Integer.MAX_VALUE, Integer.MIN_VALUE, -99), BAD);
        CHECK.due("addTerm(0, 2, -1, -1)", x.addTerm(0, 2, -1, -1), ILLEGAL);
        CHECK.due("addTerm(1, 2, -1, -1)", x.addTerm(1, 2, -1, -1), ILLEGAL);
        CHECK.same("wrong terms", Check.whole(x), before);
        CHECK.due("addTerm(2, 0, -1, -1)", x.addTerm(2, 0, -1, -1), 1);
        CHECK.due("addTerm(0, 2, 2, -1)", x.addTerm(0, 2, 2, -1), 2);
        CHECK.due("addTerm(1, -1, -1, -1)", x.addTerm(1, -1, -1, -1), 3);
        CHECK.due("addTerm(0, -1, -1, -1)", x.addTerm(0, -1, -1, -1), ILLEGAL);
    }

    private static void addFull() {
        TermMarks x = new TermMarks();
        for (int word = 0; word < 12; word++) {
            CHECK.due("addTerm of " + word, x.addTerm(word, -1, -1, -1), word);
        }
        CHECK.due("addTerm of the 13th", x.addTerm(12, -1, -1, -1), TermMarks.CAPACITY_EXCEEDED);
        CHECK.due("addTerm of one that is there", x.addTerm(11, -1, -1, -1), ILLEGAL);
        CHECK.due("addTerm of no word", x.addTerm(26, -1, -1, -1), BAD);
        CHECK.due("terms", x.count(2), 12);
        CHECK.due("states", x.count(8), 5);
        CHECK.due("removeTerm(4)", x.removeTerm(4), 11);
        CHECK.due("addTerm of the 12th again", x.addTerm(12, -1, -1, -1), 11);
    }

    private static void removeTerms() {
        TermMarks x = Check.loaded("term a;term b c;term d e f;term g h i j;");
        x.setQuiet(2, 1);
        CHECK.due("removeTerm(1)", x.removeTerm(1), 3);
        CHECK.due("term(0, 1)", x.term(0, 1), 0);
        CHECK.due("term(1, 0)", x.term(1, 0), 3);
        CHECK.due("term(1, 3)", x.term(1, 3), 5);
        CHECK.due("term(1, 5)", x.term(1, 5), 1);
        CHECK.due("term(2, 0)", x.term(2, 0), 4);
        CHECK.due("term(2, 4)", x.term(2, 4), 9);
        CHECK.due("term(2, 5)", x.term(2, 5), 0);
        CHECK.due("term(3, 0)", x.term(3, 0), BAD);
        String before = Check.whole(x);
        CHECK.due("removeTerm(3)", x.removeTerm(3), BAD);
        CHECK.due("removeTerm(-1)", x.removeTerm(-1), BAD);
        CHECK.due("removeTerm(min)", x.removeTerm(Integer.MIN_VALUE), BAD);
        CHECK.due("removeTerm(max)", x.removeTerm(Integer.MAX_VALUE), BAD);
        CHECK.same("wrong removes", Check.whole(x), before);
        CHECK.due("addTerm of what went", x.addTerm(1, 2, -1, -1), 3);
        CHECK.due("a new term is not quiet", x.term(3, 5), 0);
        CHECK.due("removeTerm(3)", x.removeTerm(3), 3);
        CHECK.due("removeTerm(0)", x.removeTerm(0), 2);
        CHECK.due("undo()", x.undo(), 4);
        CHECK.due("term(0, 1) after undo", x.term(0, 1), 0);
        x.setQuiet(2, 1);
        x.removeTerm(2);
        CHECK.due("addTerm of the last one again", x.addTerm(6, 7, 8, 9), 2);
        CHECK.due("it is not quiet again", x.term(2, 5), 0);
        x.removeTerm(2);
        CHECK.due("gain of what went", x.gain(6, 7, 8, 9), 100);
        x.removeTerm(1);
        CHECK.due("removeTerm of the last", x.removeTerm(0), 0);
        CHECK.due("removeTerm of none", x.removeTerm(0), BAD);
    }

    private static void quietTerms() {
        TermMarks x = Check.loaded("ch0:a b a;ch1:a;ch2:b;term a;term b;");
        CHECK.due("marks", x.count(4), 4);
        CHECK.due("setQuiet(0, 1)", x.setQuiet(0, 1), 2);
        CHECK.due("quiet terms", x.count(3), 1);
        CHECK.due("readings", x.count(5), 5);
        CHECK.due("the first mark's term", x.mark(0, 2), 1);
        CHECK.due("setQuiet(0, 1) again", x.setQuiet(0, 1), 2);
        CHECK.due("states", x.count(8), 3);
        CHECK.due("setQuiet(1, 1)", x.setQuiet(1, 1), 0);
        CHECK.due("setQuiet(0, 0)", x.setQuiet(0, 0), 2);
        CHECK.due("quiet terms", x.count(3), 1);
        String before = Check.whole(x);
        CHECK.due("setQuiet(2, 0)", x.setQuiet(2, 0), BAD);
        CHECK.due("setQuiet(-1, 0)", x.setQuiet(-1, 0), BAD);
        CHECK.due("setQuiet(0, 2)", x.setQuiet(0, 2), BAD);
        CHECK.due("setQuiet(0, -1)", x.setQuiet(0, -1), BAD);
        CHECK.due("setQuiet(max, min)", x.setQuiet(Integer.MAX_VALUE, Integer.MIN_VALUE), BAD);
        CHECK.same("wrong quiets", Check.whole(x), before);
        CHECK.due("undo()", x.undo(), 4);
        CHECK.due("marks after undo", x.count(4), 0);
    }

    private static void bases() {
        TermMarks x = new TermMarks();
        CHECK.due("setBase(0, 1)", x.setBase(0, 1), 0);
        CHECK.due("base(0)", x.base(0), 1);
        CHECK.due("base(1)", x.base(1), 1);
        CHECK.due("setBase(2, 1)", x.setBase(2, 1), 2);
        CHECK.due("setBase(0, 2), a form", x.setBase(0, 2), ILLEGAL);
        CHECK.due("setBase(3, 0), a form", x.setBase(3, 0), ILLEGAL);
        CHECK.due("setBase(1, 3), with forms", x.setBase(1, 3), ILLEGAL);
        CHECK.due("setBase(1, 0), its own form", x.setBase(1, 0), ILLEGAL);
        CHECK.due("states", x.count(8), 2);
        CHECK.due("setBase(1, 1)", x.setBase(1, 1), 1);
        CHECK.due("setBase(0, 1) again", x.setBase(0, 1), 1);
        CHECK.due("setBase(0, 4), from one to another", x.setBase(0, 4), 1);
        CHECK.due("base(0)", x.base(0), 4);
        CHECK.due("forms", x.count(6), 2);
        CHECK.due("setBase(0, 0)", x.setBase(0, 0), 4);
        CHECK.due("base(0)", x.base(0), 0);
        CHECK.due("undo()", x.undo(), 4);
        CHECK.due("base(0) after undo", x.base(0), 4);
        x.setBase(2, 2);
        CHECK.due("setBase(1, 3) without forms", x.setBase(1, 3), 1);
        String before = Check.whole(x);
        CHECK.due("setBase(-1, 0)", x.setBase(-1, 0), BAD);
        CHECK.due("setBase(26, 0)", x.setBase(26, 0), BAD);
        CHECK.due("setBase(0, -1)", x.setBase(0, -1), BAD);
        CHECK.due("setBase(0, 26)", x.setBase(0, 26), BAD);
        CHECK.due("setBase(26, 26)", x.setBase(26, 26), BAD);
        CHECK.due("setBase(min, max)", x.setBase(Integer.MIN_VALUE, Integer.MAX_VALUE), BAD);
        CHECK.same("wrong bases", Check.whole(x), before);
    }

    private static void basesAndTerms() {
        TermMarks x = Check.loaded("ch0:a c b c;term a c;term b c;term d;");
        String before = Check.whole(x);
        CHECK.due("setBase(0, 1), two alike", x.setBase(0, 1), ILLEGAL);
        CHECK.due("setBase(1, 0), two alike", x.setBase(1, 0), ILLEGAL);
        CHECK.same("bases that would make terms alike", Check.whole(x), before);
        CHECK.due("setBase(0, 3)", x.setBase(0, 3), 0);
        CHECK.due("setBase(1, 3), two alike by a third word", x.setBase(1, 3), ILLEGAL);
        CHECK.due("base(1)", x.base(1), 1);
        CHECK.due("occurrences of d", x.term(2, 7), 1);
        CHECK.due("setBase(0, 0)", x.setBase(0, 0), 3);
        x.removeTerm(1);
        x.removeTerm(1);
        CHECK.due("setBase(1, 0)", x.setBase(1, 0), 1);
        CHECK.due("readings of a c", x.term(0, 6), 2);
        TermMarks y = Check.loaded("term a;term b;");
        y.removeTerm(1);
        CHECK.due("setBase(0, 1) when the other one is gone", y.setBase(0, 1), 0);
    }
}
