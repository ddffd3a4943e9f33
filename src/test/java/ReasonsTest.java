/** Promises 23 to 26: why, nested, gain, greediest. */
public final class ReasonsTest {
    private static final Check CHECK = new Check();
    private static final int BAD = TermMarks.INVALID_ARGUMENT;
    private static final int ILLEGAL = TermMarks.ILLEGAL_STATE;

    public static void main(String[] args) {
        reasons();
        reasonsWrong();
        nesting();
        gains();
        gainsWrong();
        gainWhenFull();
        greediest();
        CHECK.end();
    }

    private static void reasons() {
        // Terms: 0 "a", 1 "a b", 2 "b", 3 "b c d", 4 "a a"; "f" is a form of "a".
        TermMarks x = Check.loaded("form f=a;term a;term a b;term b;term b c d;term a a;",
                "ch0:a b c d b a a a f b;ch1:a a;ch2:f x f;");
        // Read in chapter 0: "a b" at 0, "b" at 4, "a a" at 5, "a" at 7, "f b" at 8.
        int[][] due = {
            {2, 0, 1, 1, 1}, {1, 1, 3, 3, 1}, {1, 1, 1, 1, 1}, {1, 1, 1, 1, 1}, {1, 1, 0, 1, 1},
            {2, 1, 1, 1, 0}, {3, 1, 1, 1, 3}, {0, 1, 1, 1, 2}, {2, 5, 1, 1, 1}, {1, 1, 3, 1, 1}};
        // At place 7 "a a" occurs, with the form at place 8.
        due[7][0] = 2;
        due[7][4] = 5;
        due[8] = new int[] {3, 3, 1, 1, 1};
        due[9] = new int[] {1, 1, 5, 1, 1};
        for (int place = 0; place < due.length; place++) {
            for (int term = 0; term < 5; term++) {
                CHECK.due("why(0, " + place + ", " + term + ")", x.why(0, place, term), due[place][term]);
            }
        }
        CHECK.due("why(1, 0, 0)", x.why(1, 0, 0), 2);
        CHECK.due("why(1, 1, 0)", x.why(1, 1, 0), 3);
        CHECK.due("why(2, 0, 0)", x.why(2, 0, 0), 0);
        CHECK.due("why(2, 1, 0)", x.why(2, 1, 0), 1);
        CHECK.due("why(2, 2, 0)", x.why(2, 2, 0), 5);
        x.setQuiet(0, 1);
        CHECK.due("why(2, 0, 0), quiet", x.why(2, 0, 0), 4);
        CHECK.due("why(2, 2, 0), quiet and read earlier", x.why(2, 2, 0), 4);
        CHECK.due("why(2, 1, 0), quiet and elsewhere", x.why(2, 1, 0), 1);
        CHECK.due("why(1, 0, 0), quiet and a longer one", x.why(1, 0, 0), 2);
        CHECK.due("why(1, 1, 0), quiet and inside", x.why(1, 1, 0), 3);
    }

    private static void reasonsWrong() {
        TermMarks x = Check.loaded("term a;ch0:a b;");
        CHECK.due("why(-1, 0, 0)", x.why(-1, 0, 0), BAD);
        CHECK.due("why(6, 0, 0)", x.why(6, 0, 0), BAD);
        CHECK.due("why(0, -1, 0)", x.why(0, -1, 0), BAD);
        CHECK.due("why(0, 2, 0)", x.why(0, 2, 0), BAD);
        CHECK.due("why(1, 0, 0)", x.why(1, 0, 0), BAD);
        CHECK.due("why(0, 0, 1)", x.why(0, 0, 1), BAD);
        CHECK.due("why(0, 0, -1)", x.why(0, 0, -1), BAD);
        CHECK.due("why(max, max, max)", x.why(Integer.MAX_VALUE, Integer.MAX_VALUE, Integer.MAX_VALUE), BAD);
        CHECK.due("why(0, min, 0)", x.why(0, Integer.MIN_VALUE, 0), BAD);
        CHECK.due("why(0, 1, 0)", x.why(0, 1, 0), 1);
    }

    private static void nesting() {
        // Terms: 0 "a", 1 "a b", 2 "b a b a", 3 "e e", 4 "b a"; "e" is a form of "a".
        TermMarks x = Check.loaded("form e=a;term a;term a b;term b a b a;term e e;term b a;");
        int[][] due = {{1, 1, 2, 2, 1}, {0, 1, 1, 0, 0}, {0, 0, 1, 0, 0}, {0, 0, 0, 1, 0}, {0, 0, 2, 0, 1}};
        for (int inner = 0; inner < 5; inner++) {
            for (int outer = 0; outer < 5; outer++) {
                CHECK.due("nested(" + inner + ", " + outer + ")", x.nested(inner, outer), due[inner][outer]);
            }
        }
        Check.load(x, "term a a a;");
        CHECK.due("places that overlap", x.nested(3, 5), 2);
        CHECK.due("nested(0, 5)", x.nested(0, 5), 3);
        CHECK.due("nested(-1, 0)", x.nested(-1, 0), BAD);
        CHECK.due("nested(0, -1)", x.nested(0, -1), BAD);
        CHECK.due("nested(6, 0)", x.nested(6, 0), BAD);
        CHECK.due("nested(0, 6)", x.nested(0, 6), BAD);
        CHECK.due("nested(6, 6)", x.nested(6, 6), BAD);
        CHECK.due("nested(min, max)", x.nested(Integer.MIN_VALUE, Integer.MAX_VALUE), BAD);
    }

    private static void gains() {
        TermMarks x = Check.loaded("form e=c;ch0:a b c;ch1:a b e;ch2:c a c;term a b;term c;");
        CHECK.due("marks", x.count(4), 5);
        CHECK.due("gain of what is nowhere", x.gain(25, -1, -1, -1), 100);
        CHECK.due("gain of a", x.gain(0, -1, -1, -1), 101);
        CHECK.due("gain of a c", x.gain(0, 2, -1, -1), 101);
        CHECK.due("gain of a b c", x.gain(0, 1, 2, -1), 98);
        CHECK.due("gain of a b e", x.gain(0, 1, 4, -1), 98);
        CHECK.due("gain of c a c", x.gain(2, 0, 2, -1), 100);
        CHECK.due("gain of b", x.gain(1, -1, -1, -1), 100);
        CHECK.due("gain of b c", x.gain(1, 2, -1, -1), 100);
        CHECK.due("gain of c a", x.gain(2, 0, -1, -1), 101);
        x.setQuiet(0, 1);
        CHECK.due("gain of a b c over a quiet term", x.gain(0, 1, 2, -1), 100);
        CHECK.due("marks then", x.count(4), 3);
        CHECK.due("terms then", x.count(2), 2);
        CHECK.due("states then", x.count(8), 2);
        int gain = x.gain(0, -1, -1, -1);
        x.addTerm(0, -1, -1, -1);
        CHECK.due("a gain that comes", x.count(4), 3 + gain - 100);
    }

    private static void gainsWrong() {
        TermMarks x = Check.loaded("form b=a;term a c;");
        CHECK.due("gain(-1, -1, -1, -1)", x.gain(-1, -1, -1, -1), BAD);
        CHECK.due("gain(-1, 0, -1, -1)", x.gain(-1, 0, -1, -1), BAD);
        CHECK.due("gain(26, -1, -1, -1)", x.gain(26, -1, -1, -1), BAD);
        CHECK.due("gain(0, 26, -1, -1)", x.gain(0, 26, -1, -1), BAD);
        CHECK.due("gain(0, 0, 26, -1)", x.gain(0, 0, 26, -1), BAD);
        CHECK.due("gain(0, 0, 0, 26)", x.gain(0, 0, 0, 26), BAD);
        CHECK.due("gain(0, -2, -1, -1)", x.gain(0, -2, -1, -1), BAD);
        CHECK.due("gain(0, -1, 0, -1)", x.gain(0, -1, 0, -1), BAD);
        CHECK.due("gain(0, 0, -1, 0)", x.gain(0, 0, -1, 0), BAD);
        CHECK.due("gain(0, 2, -1, 2)", x.gain(0, 2, -1, 2), BAD);
        CHECK.due("gain(0, 2, -1, -1)", x.gain(0, 2, -1, -1), ILLEGAL);
        CHECK.due("gain(1, 2, -1, -1)", x.gain(1, 2, -1, -1), ILLEGAL);
        CHECK.due("gain(min, max, min, max)", x.gain(Integer.MIN_VALUE, Integer.MAX_VALUE, Integer.MIN_VALUE,
                Integer.MAX_VALUE), BAD);
        CHECK.due("gain(0, 2, 2, 2)", x.gain(0, 2, 2, 2), 100);
    }

    private static void gainWhenFull() {
        TermMarks x = Check.loaded("ch0:a b c d e f g h i j k l m;ch1:m;ch3:a m b;");
        for (int word = 0; word < 12; word++) {
            x.addTerm(word, -1, -1, -1);
        }
        CHECK.due("gain of a 13th", x.gain(12, -1, -1, -1), 103);
        CHECK.due("gain of a longer 13th", x.gain(8, 9, 10, 11), 97);
        CHECK.due("gain of one that is there", x.gain(11, -1, -1, -1), ILLEGAL);
        CHECK.due("gain of no word", x.gain(26, -1, -1, -1), BAD);
        CHECK.due("terms then", x.count(2), 12);
        CHECK.due("addTerm of a 13th", x.addTerm(12, -1, -1, -1), TermMarks.CAPACITY_EXCEEDED);
    }

    private static void greediest() {
        TermMarks x = new TermMarks();
        CHECK.due("greediest() without terms", x.greediest(), TermMarks.NONE);
        Check.load(x, "ch0:a b c d;term a;term b;");
        CHECK.due("greediest() of alike gains", x.greediest(), 0);
        Check.load(x, "term c;term a b c d;");
        CHECK.due("greediest()", x.greediest(), 3);
        x.setQuiet(3, 1);
        CHECK.due("greediest() of a quiet one", x.greediest(), 3);
        Check.load(x, "ch0:a c;");
        CHECK.due("greediest() of what is not read", x.greediest(), 1);
        CHECK.due("marks then", x.count(4), 2);
        CHECK.due("terms then", x.count(2), 4);
        x.setQuiet(0, 1);
        CHECK.due("greediest() of a quiet one, the first", x.greediest(), 0);
        TermMarks y = Check.loaded("term z;ch1:a;");
        CHECK.due("greediest() of one without marks", y.greediest(), 0);
    }
}
