/** The sentences of promises 23 to 26: why, nested, gain, greediest. */
public final class Promises23To26Test {
    private static final int BAD = TermMarks.INVALID_ARGUMENT;
    private static final int ILLEGAL = TermMarks.ILLEGAL_STATE;
    private static final int FULL = TermMarks.CAPACITY_EXCEEDED;
    private static final int NONE = TermMarks.NONE;
    private static final int MIN = Integer.MIN_VALUE;
    private static final int MAX = Integer.MAX_VALUE;
    private static final Sentences S = new Sentences();

    public static void main(String[] args) {
        whyRanges();
        reasons();
        reasonsInOrder();
        nesting();
        nestedAnswers();
        gainRanges();
        gainErrors();
        gains();
        greediest();
        greediestOfMany();
        changingNothing();
        S.end();
    }

    private static void whyRanges() {
        S.says("23: chapter: 0 to 5", x -> x.load("ch0:a;ch5:a;term a;").due(0, "why", 0, 0, 0).due(0, "why", 5, 0, 0)
                .due(BAD, "why", -1, 0, 0).due(BAD, "why", 6, 0, 0).due(BAD, "why", MIN, 0, 0)
                .due(BAD, "why", MAX, 0, 0));
        S.says("23: place: 0 to the number of its words less 1", x -> x.load("ch0:b a;term a;").due(1, "why", 0, 0, 0)
                .due(0, "why", 0, 1, 0).due(BAD, "why", 0, -1, 0).due(BAD, "why", 0, 2, 0).due(BAD, "why", 0, MIN, 0)
                .due(BAD, "why", 0, MAX, 0));
        S.says("23: place: 39 is the last one of 40", x -> x.fill(0, 0, 40, 0).load("term a;").due(5, "why", 0, 39, 0)
                .due(BAD, "why", 0, 40, 0));
        S.says("23: place: a chapter without words has none", x -> x.load("ch0:a;term a;").due(BAD, "why", 1, 0, 0)
                .does("delete", 0, 0, 0).due(BAD, "why", 0, 0, 0));
        S.says("23: INVALID_ARGUMENT if there is no such term", x -> x.load("ch0:a;").due(BAD, "why", 0, 0, 0)
                .load("term a;").due(BAD, "why", 0, 0, -1).due(BAD, "why", 0, 0, 1).due(BAD, "why", 0, 0, MIN)
                .due(BAD, "why", 0, 0, MAX).due(0, "why", 0, 0, 0).does("removeTerm", 0).due(BAD, "why", 0, 0, 0));
    }

    private static void reasons() {
        S.says("23: returns 0 if it has one there", x -> x
                .load("form e=b;ch0:a e;ch1:c a b;ch2:a;term a b;term a;term c;")
                .due(0, "why", 0, 0, 0).due(0, "why", 1, 1, 0).due(0, "why", 1, 0, 2).due(0, "why", 2, 0, 1));
        S.says("23: 1 it does not occur there", x -> x.load("ch0:a b c;term b;term b d;term a b c d;")
                .due(1, "why", 0, 0, 0)
                .due(1, "why", 0, 1, 1).due(1, "why", 0, 0, 2).due(1, "why", 0, 2, 0));
        S.says("23: 1 it does not occur there, since the chapter ends", x -> x
                .load("ch0:a b;ch1:c;term b c;term a b c;")
                .due(1, "why", 0, 1, 0).due(1, "why", 0, 0, 1));
        S.says("23: 2 another term is read at this place that is longer", x -> x
                .load("ch0:a b c;term a;term a b;term a b c;").due(2, "why", 0, 0, 0).due(2, "why", 0, 0, 1)
                .due(0, "why", 0, 0, 2).does("setQuiet", 2, 1).due(2, "why", 0, 0, 0).due(2, "why", 0, 0, 1));
        S.says("23: 3 this place lies behind the first word of another reading", x -> x
                .load("ch0:a b c d c;term a b c d;term b;term c d;term d;").due(3, "why", 0, 1, 1)
                .due(3, "why", 0, 2, 2)
                .due(3, "why", 0, 3, 3).due(1, "why", 0, 4, 2));
        S.says("23: 3 this place lies behind the first word of another reading, of the same term", x -> x
                .load("ch0:a a a;term a a;").due(0, "why", 0, 0, 0).due(3, "why", 0, 1, 0).due(1, "why", 0, 2, 0));
        S.says("23: 3 also for a term that is longer than the one read", x -> x.load("ch0:a b c d;term a b;term b c d;")
                .due(3, "why", 0, 1, 1));
        S.says("23: 4 it is quiet", x -> x.load("ch0:a;term a;").does("setQuiet", 0, 1).due(4, "why", 0, 0, 0)
                .does("setQuiet", 0, 0).due(0, "why", 0, 0, 0));
        S.says("23: 5 it is read earlier in this chapter", x -> x.load("ch0:a a b a;ch1:a;term a;")
                .due(0, "why", 0, 0, 0)
                .due(5, "why", 0, 1, 0).due(5, "why", 0, 3, 0).due(0, "why", 1, 0, 0));
        S.says("23: not 5 if it only occurs earlier", x -> x.load("ch0:a b a;term a;term a b;").due(0, "why", 0, 2, 0));
    }

    private static void reasonsInOrder() {
        S.says("23: the first of these: 1 before 4 and 5", x -> x.load("ch0:a b;term a;").due(1, "why", 0, 1, 0)
                .does("setQuiet", 0, 1).due(1, "why", 0, 1, 0));
        S.says("23: the first of these: 1 before 2", x -> x.load("ch0:a b;term a b;term a c;").due(1, "why", 0, 0, 1));
        S.says("23: the first of these: 1 before 3", x -> x.load("ch0:a b;term a b;term c;term b c;")
                .due(1, "why", 0, 1, 1)
                .due(1, "why", 0, 1, 2));
        S.says("23: the first of these: 2 before 4", x -> x.load("ch0:a b;term a;term a b;").does("setQuiet", 0, 1)
                .due(2, "why", 0, 0, 0));
        S.says("23: the first of these: 2 before 5", x -> x.load("ch0:a a b;term a;term a b;").due(2, "why", 0, 1, 0));
        S.says("23: the first of these: 3 before 4", x -> x.load("ch0:a b;term b;term a b;").does("setQuiet", 0, 1)
                .due(3, "why", 0, 1, 0));
        S.says("23: the first of these: 3 before 5", x -> x.load("ch0:b a b;term b;term a b;").due(3, "why", 0, 2, 0));
        S.says("23: the first of these: 4 before 5", x -> x.load("ch0:a a;term a;").does("setQuiet", 0, 1)
                .due(4, "why", 0, 1, 0));
    }

    private static void nesting() {
        S.says("24: inner: a term", x -> x.due(BAD, "nested", 0, 0).load("term a;term a b;").due(BAD, "nested", -1, 0)
                .due(BAD, "nested", 2, 0).due(BAD, "nested", MIN, 0).due(BAD, "nested", MAX, 0).due(1, "nested", 0, 1)
                .due(1, "nested", 1, 1));
        S.says("24: outer: a term", x -> x.load("term a;term a b;").due(BAD, "nested", 0, -1).due(BAD, "nested", 0, 2)
                .due(BAD, "nested", 0, MIN).due(BAD, "nested", 0, MAX).due(BAD, "nested", 2, 2).due(1, "nested", 0, 0)
                .due(1, "nested", 0, 1));
        S.says("24: INVALID_ARGUMENT if a term was removed", x -> x.load("term a;term a b;").does("removeTerm", 0)
                .due(BAD, "nested", 0, 1).due(BAD, "nested", 1, 0).due(1, "nested", 0, 0));
        S.says("24: the 12th term", x -> x.terms(12).due(1, "nested", 11, 11).due(0, "nested", 11, 0)
                .due(0, "nested", 0, 11).due(BAD, "nested", 12, 0).due(BAD, "nested", 0, 12));
    }

    private static void nestedAnswers() {
        S.says("24: 1 for a term in itself", x -> x.load("term a;term a a;term a a a;term a a a a;")
                .due(1, "nested", 0, 0)
                .due(1, "nested", 1, 1).due(1, "nested", 2, 2).due(1, "nested", 3, 3));
        S.says("24: the number of places within outer at which inner occurs", x -> x
                .load("term a;term b a;term b a b a;term a b c d;").due(1, "nested", 0, 1).due(2, "nested", 0, 2)
                .due(2, "nested", 1, 2).due(1, "nested", 0, 3).due(0, "nested", 1, 3));
        S.says("24: places that overlap", x -> x.load("term a;term a a;term a a a a;").due(4, "nested", 0, 2)
                .due(3, "nested", 1, 2).due(2, "nested", 0, 1));
        S.says("24: at the beginning and at the end of outer", x -> x
                .load("term a b c d;term a b c;term b c d;term d;term a;")
                .due(1, "nested", 1, 0).due(1, "nested", 2, 0).due(1, "nested", 3, 0).due(1, "nested", 4, 0));
        S.says("24: 0 if inner goes beyond the end of outer, or is longer", x -> x.load("term a b;term b c;term a b c;")
                .due(0, "nested", 1, 0).due(0, "nested", 2, 0).due(0, "nested", 0, 1).due(1, "nested", 1, 2));
        S.says("24: 0 if as long and another term", x -> x.load("term a b;term b a;").due(0, "nested", 0, 1)
                .due(0, "nested", 1, 0));
        S.says("24: occurs, which goes by bases", x -> x.load("form b=a;term a c;term b;term c b b;")
                .due(1, "nested", 1, 0)
                .due(2, "nested", 1, 2));
        S.says("24: also in quiet terms, and without chapters", x -> x.load("term a;term a a;").does("setQuiet", 0, 1)
                .does("setQuiet", 1, 1).due(2, "nested", 0, 1));
    }

    private static void gainRanges() {
        S.says("25: first: as for addTerm()", x -> x.due(BAD, "gain", -1, -1, -1, -1).due(BAD, "gain", 26, -1, -1, -1)
                .due(BAD, "gain", -2, -1, -1, -1).due(BAD, "gain", MIN, -1, -1, -1).due(BAD, "gain", MAX, -1, -1, -1)
                .due(100, "gain", 0, -1, -1, -1).due(100, "gain", 25, -1, -1, -1));
        S.says("25: second: as for addTerm()", x -> x.due(BAD, "gain", 0, 26, -1, -1).due(BAD, "gain", 0, -2, -1, -1)
                .due(BAD, "gain", 0, MIN, -1, -1).due(BAD, "gain", 0, MAX, -1, -1).due(100, "gain", 0, 0, -1, -1)
                .due(100, "gain", 0, 25, -1, -1));
        S.says("25: third: as for addTerm()", x -> x.due(BAD, "gain", 0, 1, 26, -1).due(BAD, "gain", 0, 1, -2, -1)
                .due(BAD, "gain", 0, 1, MIN, -1).due(BAD, "gain", 0, 1, MAX, -1).due(100, "gain", 0, 1, 0, -1)
                .due(100, "gain", 0, 1, 25, -1));
        S.says("25: fourth: as for addTerm()", x -> x.due(BAD, "gain", 0, 1, 2, 26).due(BAD, "gain", 0, 1, 2, -2)
                .due(BAD, "gain", 0, 1, 2, MIN).due(BAD, "gain", 0, 1, 2, MAX).due(100, "gain", 0, 1, 2, 0)
                .due(100, "gain", 0, 1, 2, 25));
        S.says("25: words of a text, up to the 60th", x -> x.load(Texts.allWords()).due(101, "gain", 59, -1, -1, -1)
                .due(101, "gain", 58, 59, -1, -1).due(BAD, "gain", 60, -1, -1, -1).due(BAD, "gain", 0, 0, 0, 60));
    }

    private static void gainErrors() {
        S.says("25: INVALID_ARGUMENT as for addTerm(): a word follows on -1", x -> x.due(BAD, "gain", -1, 0, -1, -1)
                .due(BAD, "gain", 0, -1, 1, -1).due(BAD, "gain", 0, -1, -1, 1).due(BAD, "gain", 0, 1, -1, 2)
                .due(BAD, "gain", -1, 0, 1, 2).due(BAD, "gain", -1, -1, -1, 0));
        S.says("25: ILLEGAL_STATE as for addTerm()", x -> x.load("form b=a;term a c;term d;").does("setQuiet", 1, 1)
                .due(ILLEGAL, "gain", 0, 2, -1, -1).due(ILLEGAL, "gain", 1, 2, -1, -1)
                .due(ILLEGAL, "gain", 3, -1, -1, -1)
                .due(100, "gain", 0, -1, -1, -1).due(100, "gain", 0, 2, 2, -1).due(100, "gain", 2, 0, -1, -1));
        S.says("25: INVALID_ARGUMENT is listed before ILLEGAL_STATE", x -> x.load("term a;term a b;")
                .due(BAD, "gain", 0, -1, 0, -1).due(BAD, "gain", 0, 1, -1, 26).due(BAD, "gain", 0, -2, -1, -1));
        S.says("25: the number of terms does not matter", x -> x.terms(12).load("ch0:m a m;ch3:m;")
                .due(102, "gain", 12, -1, -1, -1).due(100, "gain", 12, 0, -1, -1).due(ILLEGAL, "gain", 11, -1, -1, -1)
                .due(BAD, "gain", 26, -1, -1, -1).due(FULL, "addTerm", 12, -1, -1, -1).due(12, "count", 2));
    }

    private static void gains() {
        S.says("25: returns 100 plus this number, 100 if nothing becomes greater", x -> x.load("ch0:a b;")
                .due(100, "gain", 2, -1, -1, -1).due(100, "gain", 1, 0, -1, -1).due(100, "gain", 0, 1, 2, -1));
        S.says("25: returns 100 plus this number, 106 with a mark in each chapter", x -> x
                .load("ch0:a a;ch1:b a;ch2:a;ch3:a;ch4:a;ch5:c c a;").due(106, "gain", 0, -1, -1, -1));
        S.says("25: which can be below 0", x -> {
            x.load("term a;term b;term c;term d;");
            x.load("ch0:a b c d;ch1:a b c d;ch2:a b c d;").load("ch3:a b c d;ch4:a b c d;ch5:a b c d;");
            x.due(24, "count", 4).due(82, "gain", 0, 1, 2, 3).due(88, "gain", 0, 1, 2, -1)
                    .due(94, "gain", 0, 1, -1, -1);
        });
        S.says("25: a term that is added hides others, and may leave their next use", x -> x
                .load("ch0:a b a;ch1:a b;term a;")
                .due(101, "gain", 0, 1, -1, -1).due(102, "gain", 1, -1, -1, -1));
        S.says("25: a term inside of others has no mark", x -> x.load("ch0:a b c;ch1:b;term a b c;")
                .due(101, "gain", 1, -1, -1, -1)
                .due(100, "gain", 1, 2, -1, -1));
        S.says("25: over a quiet term", x -> x.load("ch0:a b;term a;").does("setQuiet", 0, 1)
                .due(101, "gain", 0, 1, -1, -1)
                .due(101, "gain", 1, -1, -1, -1));
        S.says("25: by the bases of its words", x -> x.load("form b=a;ch0:a c;ch1:b c;ch2:b;")
                .due(102, "gain", 1, 2, -1, -1)
                .due(103, "gain", 0, -1, -1, -1));
        S.says("25: addTerm() makes the number greater by as much", x -> x.load("ch0:a b c;ch1:b a;term a;term b c;")
                .due(3, "count", 4).due(99, "gain", 0, 1, -1, -1).does("addTerm", 0, 1, -1, -1).due(2, "count", 4)
                .does("undo").due(101, "gain", 1, -1, -1, -1).does("addTerm", 1, -1, -1, -1).due(4, "count", 4));
    }

    private static void greediest() {
        S.says("26: NONE without terms", x -> x.due(NONE, "greediest").load("ch0:a;").due(NONE, "greediest")
                .load("term a;")
                .due(0, "greediest").does("removeTerm", 0).due(NONE, "greediest"));
        S.says("26: one term", x -> x.load("term a;").due(0, "greediest").load("ch0:a;").due(0, "greediest")
                .does("setQuiet", 0, 1).due(0, "greediest"));
        S.says("26: the term without which there would be the most marks", x -> x
                .load("ch0:a b c d;ch1:a;term a;term b;term c;term a b c;").due(2, "count", 4).due(3, "greediest"));
        S.says("26: the term that takes the fewest marks away", x -> x
                .load("ch0:a b;ch1:a c;ch2:a b c;ch3:c;ch4:c;term a;term b;term c;")
                .due(1, "greediest"));
        S.says("26: a quiet term can hide others", x -> x.load("ch0:a b;term a;term b;term a b;").does("setQuiet", 2, 1)
                .due(0, "count", 4).due(2, "greediest"));
        S.says("26: a quiet term that is not read takes no mark away", x -> x.load("ch0:a b;term a;term b;term c;")
                .does("setQuiet", 2, 1).due(2, "greediest"));
        S.says("26: of several the one with the smallest number", x -> x.load("ch0:a b c;term a;term b;term c;")
                .due(0, "greediest").load("ch1:a;").due(1, "greediest").load("ch1:a b;").due(2, "greediest"));
        S.says("26: of several the one with the smallest number, none being read", x -> x.terms(12)
                .due(0, "greediest"));
    }

    private static void greediestOfMany() {
        S.says("26: the last one of 12 terms", x -> x.load("ch0:a b c d e f g h i j k l;").terms(11)
                .due(0, "greediest").does("addTerm", 0, 1, 2, 3).due(11, "greediest"));
        S.says("26: the most marks, 66", x -> {
            x.terms(12);
            for (int chapter = 0; chapter < 6; chapter++) {
                x.load("ch" + chapter + ":a b c d e f g h i j k l;");
            }
            x.due(0, "greediest").does("delete", 3, 7, 7).due(7, "greediest");
        });
    }

    private static void changingNothing() {
        S.changesNothing("why, nested, gain and greediest change nothing", x -> x
                .load("ch0:a b c a;form d=a;term a b;term c;")
                .does("setQuiet", 1, 1).type("ch"), x -> x.due(0, "why", 0, 0, 0).due(0, "nested", 1, 0)
                .due(101, "gain", 0, -1, -1, -1).due(100, "gain", 1, 2, -1, -1).due(1, "greediest"));
        S.changesNothing("Errors: refused reasons change nothing", x -> x.load("ch0:a b;term a;").type("ch"), x -> x
                .due(BAD, "why", 0, 2, 0).due(BAD, "nested", 0, 1).due(BAD, "gain", 26, -1, -1, -1)
                .due(ILLEGAL, "gain", 0, -1, -1, -1));
    }
}
