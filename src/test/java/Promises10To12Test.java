/** The sentences of promises 10 to 12, and of the sections "Snapshots" and "Undo". */
public final class Promises10To12Test {
    private static final int BAD = TermMarks.INVALID_ARGUMENT;
    private static final int ILLEGAL = TermMarks.ILLEGAL_STATE;
    private static final int FULL = TermMarks.CAPACITY_EXCEEDED;
    private static final int NONE = TermMarks.NONE;
    private static final int MIN = Integer.MIN_VALUE;
    private static final int MAX = Integer.MAX_VALUE;
    private static final Sentences S = new Sentences();

    public static void main(String[] args) {
        slots();
        taking();
        restoring();
        undoing();
        undoneStates();
        recording();
        notRecording();
        S.end();
    }

    /** A form, a chapter and a term of new words, a quiet term, and a snapshot in slot 1. */
    private static void some(Run x) {
        x.load("form foxes=fox;ch1:a foxes;term fox;term a;").does("setQuiet", 1, 1).does("take", 1);
    }

    private static void slots() {
        S.says("Snapshots: there are two slots, empty at first", x -> x.due(0, "count", 7).due(ILLEGAL, "restore", 0)
                .due(ILLEGAL, "restore", 1).due(0, "take", 0).due(1, "count", 7).due(ILLEGAL, "restore", 1)
                .due(0, "restore", 0).due(0, "take", 1).due(2, "count", 7).due(0, "restore", 1));
        S.says("Snapshots: the slots are apart", x -> x.load("ch0:a;").due(1, "take", 0).load("ch0:b c;")
                .due(2, "take", 1).load("ch0:;").due(1, "restore", 0).row(0, 0).due(2, "restore", 1).row(0, 1, 2));
        S.says("Snapshots: a snapshot keeps the chapters, all of them with all words", x -> {
            x.fill(0, 0, 40, 3).load("ch1:a;ch2:b c;ch3:d;ch4:e;ch5:f g;").due(47, "take", 0);
            x.does("replace", 3, 9).does("delete", 0, 0, 0).load("ch1:z z;ch2:;ch3:z;ch4:;ch5:z;");
            x.due(47, "restore", 0).due(3, "place", 0, 39, 0).row(1, 0).row(2, 1, 2).row(3, 3).row(4, 4).row(5, 5, 6);
        });
        S.says("Snapshots: and nothing else; nothing else changes", x -> {
            x.load("ch0:ab b;term ab;").does("take", 0).load("ch0:cd;form b=ab;term cd;").does("setQuiet", 0, 1);
            x.does("take", 1).type("ch").due(2, "restore", 0);
            x.row(0, 26, 1).term(0, 26).term(1, 27).due(1, "term", 0, 5).due(28, "count", 0).due(26, "base", 1)
                    .due(2, "count", 9).due(2, "count", 7).due(1, "restore", 1);
        });
        S.says("Snapshots: to restore makes the chapters those of the snapshot, also a chapter without words", x -> x
                .due(0, "take", 1).load("ch0:a;ch5:b;").due(0, "restore", 1).row(0).row(5).due(0, "count", 1));
        S.says("Snapshots: words that a text brought later stay words", x -> x.due(0, "take", 0).load("ch0:ab;")
                .due(0, "restore", 0).due(27, "count", 0).due(1, "insert", 0, 0, 26));
    }

    private static void taking() {
        S.says("10: slot: 0 or 1", x -> x.due(BAD, "take", -1).due(BAD, "take", 2).due(BAD, "take", MIN)
                .due(BAD, "take", MAX).due(0, "count", 7).due(0, "take", 1).due(0, "take", 0).due(2, "count", 7));
        S.says("10: takes a snapshot, in place of one that is there", x -> x.load("ch0:a;").due(1, "take", 0)
                .load("ch0:b c;").due(2, "take", 0).due(1, "count", 7).load("ch0:;").due(2, "restore", 0).row(0, 1, 2));
        S.says("10: a snapshot is not touched by later actions", x -> x.load("ch0:a b;ch2:c;").due(3, "take", 0)
                .does("insert", 0, 0, 9).does("delete", 2, 0, 0).does("replace", 1, 8).does("swap", 0, 2)
                .due(3, "restore", 0).row(0, 0, 1).row(2, 2));
        S.says("10: returns the number of words of all chapters, 0", x -> x.due(0, "take", 0));
        S.says("10: returns the number of words of all chapters", x -> x.load("ch0:a b;ch5:c;").due(3, "take", 1)
                .does("delete", 0, 0, 0).due(2, "take", 0));
        S.isAction("10: this is an action", Promises10To12Test::some, x -> x.due(2, "take", 0));
        S.isAction("10: this is an action, also in place of another snapshot", Promises10To12Test::some,
                x -> x.due(2, "take", 1));
        S.says("10: undo() brings the snapshot back that was there", x -> x.load("ch0:a;").does("take", 0)
                .load("ch0:b c;")
                .does("take", 0).does("undo").due(1, "restore", 0).row(0, 0));
        S.says("10: undo() of the first take makes the slot empty", x -> x.does("take", 0).does("undo")
                .due(0, "count", 7).due(ILLEGAL, "restore", 0));
        S.changesNothing("10: a refused take changes nothing", Promises10To12Test::some,
                x -> x.due(BAD, "take", 2).due(BAD, "take", -1));
    }

    private static void restoring() {
        S.says("11: slot: 0 or 1", x -> x.load("ch0:a;").does("take", 0).load("ch0:b b;").does("take", 1)
                .due(BAD, "restore", -1).due(BAD, "restore", 2).due(BAD, "restore", MIN).due(BAD, "restore", MAX)
                .due(1, "restore", 0).due(2, "restore", 1));
        S.says("11: restores a snapshot, which stays", x -> x.load("ch0:a;").does("take", 0).due(1, "restore", 0)
                .due(2, "insert", 0, 1, 1).due(1, "restore", 0).row(0, 0).due(1, "replace", 0, 2).due(1, "restore", 0)
                .row(0, 0).due(1, "count", 7));
        S.says("11: returns the number of words of all chapters then", x -> x.load("ch0:a b;ch5:c;").does("take", 0)
                .load("ch0:;ch1:a;").due(3, "restore", 0).due(3, "count", 1));
        S.says("11: returns 0 if the snapshot has no words", x -> x.does("take", 0).load("ch0:a b;")
                .due(0, "restore", 0));
        S.says("11: ILLEGAL_STATE if the slot is empty", x -> x.load("ch0:a;").due(ILLEGAL, "restore", 0)
                .due(ILLEGAL, "restore", 1).does("take", 1).due(ILLEGAL, "restore", 0).due(1, "restore", 1));
        S.says("11: INVALID_ARGUMENT is listed before ILLEGAL_STATE", x -> x.due(BAD, "restore", 2)
                .due(BAD, "restore", -1));
        S.isAction("11: this is an action", x -> x.load("ch0:a;").does("take", 0).load("ch0:b;ch1:c;"),
                x -> x.due(1, "restore", 0));
        S.isAction("11: this is an action, also if no chapter changes", Promises10To12Test::some,
                x -> x.due(2, "restore", 1));
        S.changesNothing("11: a refused restore changes nothing", Promises10To12Test::some,
                x -> x.due(ILLEGAL, "restore", 0).due(BAD, "restore", 2).due(BAD, "restore", -1));
    }

    private static void undoing() {
        S.says("12: returns the number of states that are left in the history", x -> {
            x.fill(0, 0, 5, 0);
            for (int left = 4; left >= 0; left--) {
                x.due(left, "undo").due(left, "count", 8).due(left, "count", 1);
            }
        });
        S.says("12: ILLEGAL_STATE if it is empty, at first", x -> x.due(ILLEGAL, "undo").due(ILLEGAL, "undo")
                .due(0, "count", 8));
        S.says("12: ILLEGAL_STATE if it is empty after the last undo", x -> x.does("insert", 0, 0, 3).due(0, "undo")
                .due(ILLEGAL, "undo").row(0).does("insert", 0, 0, 4).due(0, "undo").row(0));
        S.changesNothing("12: a refused undo changes nothing", x -> x.fill(0, 0, 7, 2).undoAll().type("ch"),
                x -> x.due(ILLEGAL, "undo"));
        S.says("12: removes the latest state, which is no state of the history then", x -> x.load("ch0:a;")
                .load("ch0:b;").due(1, "undo").row(0, 0).due(0, "undo").row(0).due(ILLEGAL, "undo"));
        S.says("12: what is undone is not done again", x -> x.load("ch0:a;").due(0, "undo").load("ch0:b;")
                .due(0, "undo")
                .row(0));
    }

    private static void undoneStates() {
        S.says("Undo: a history of at most 5 states is kept", x -> x.fill(2, 0, 5, 0).due(5, "count", 8)
                .does("insert", 2, 0, 0).due(5, "count", 8).does("insert", 2, 0, 0).due(5, "count", 8));
        S.says("Undo: the fifth state is kept with the first one", x -> x.fill(2, 0, 5, 0).undoAll().row(2)
                .due(ILLEGAL, "undo"));
        S.says("Undo: when a sixth one is recorded, the oldest one is dropped", x -> x.fill(2, 0, 6, 9).undoAll()
                .row(2, 9).due(ILLEGAL, "undo"));
        S.says("Undo: when a twelfth one is recorded, the latest five are there", x -> {
            x.fill(2, 0, 12, 9);
            for (int left = 4; left >= 0; left--) {
                x.due(left, "undo").due(left + 7, "count", 1);
            }
        });
        S.says("Undo: after undos there is room for others", x -> {
            x.fill(0, 0, 6, 1).due(4, "undo").due(3, "undo").fill(0, 4, 6, 2).due(5, "count", 8);
            x.due(4, "undo").row(0, 1, 1, 1, 1, 2).undoAll().row(0, 1);
        });
        S.says("Undo: a state is everything but the text and the history", x -> {
            Run twin = x.another();
            some(x);
            some(twin);
            x.load("ch1:z;ch4:zz;term z;form z=b;").does("setQuiet", 0, 1).does("undo").does("undo");
            x.due(2, "restore", 1);
            x.does("undo").due(3, "count", 8).same(twin);
        });
        S.says("Undo: the text does not change", x -> x.load("ch0:a;").type("ch1:b;").due(0, "undo").due(6, "count", 9)
                .due(1, "load").row(0).row(1, 1));
        S.says("Undo: a text that was loaded does not come back", x -> x.load("ch0:a;").due(0, "undo")
                .due(0, "count", 9)
                .due(0, "clearText"));
        S.says("Undo: the words that there are belong to the state", x -> x.load("ch0:ab cd;").due(28, "count", 0)
                .due(0, "undo").due(26, "count", 0).due(BAD, "base", 26).load("ch0:ef;").due(27, "count", 0)
                .spelled(26, "ef").due(26, "base", 26));
        S.says("Undo: also the last of 60 words", x -> x.load(Texts.allWords()).due(0, "undo").due(26, "count", 0)
                .load(Texts.allWords()).due(60, "count", 0).spelled(59, "bh"));
        S.says("Undo: the bases of words and the quiet terms belong to the state", x -> x.load("term a;")
                .does("setQuiet", 0, 1).does("setBase", 1, 0).does("setBase", 1, 1).does("setQuiet", 0, 0)
                .does("undo").due(1, "term", 0, 5).does("undo").due(0, "base", 1).does("undo").due(1, "base", 1)
                .does("undo").due(0, "term", 0, 5));
        S.says("Undo: the latest state is restored, not one that an action changes later", x -> x.load("ch0:a b;")
                .does("insert", 0, 0, 5).does("undo").does("insert", 0, 2, 6).does("replace", 0, 7).does("undo")
                .row(0, 0, 1, 6).does("undo").row(0, 0, 1));
    }

    private static void recording() {
        S.says("Undo: every successful call of an action records the state before it", x -> {
            x.load("ch0:a b;term a;").does("take", 0).does("undo").does("undo");
            acts(x, "insert", 0, 0, 0);
            acts(x, "delete", 0, 0, 0);
            acts(x, "replace", 3, 4);
            acts(x, "swap", 1, 2);
            acts(x, "addTerm", 1, 2, -1, -1);
            acts(x, "removeTerm", 0);
            acts(x, "setQuiet", 0, 1);
            acts(x, "setBase", 7, 8);
            acts(x, "take", 0);
            acts(x, "restore", 0);
            acts(x, "load");
        });
    }

    /** Does an action beside a chapter with a word, a term and a snapshot, and takes all back. */
    private static void acts(Run x, String call, int... arguments) {
        x.does("insert", 0, 0, 0).does("addTerm", 0, -1, -1, -1).does("take", 0).due(3, "count", 8);
        x.does(call, arguments).due(4, "count", 8);
        x.due(3, "undo").due(1, "count", 1).due(1, "count", 2).due(1, "count", 7).due(0, "count", 3).due(0, "count", 6);
        x.undoAll();
    }

    private static void notRecording() {
        S.says("Undo: a refused call of an action records nothing", x -> x.load("ch0:a;form b=a;term a;")
                .due(BAD, "insert", 0, 2, 0).due(BAD, "delete", 0, 1, 1).due(BAD, "replace", 0, 0)
                .due(BAD, "swap", 0, 6)
                .due(ILLEGAL, "addTerm", 1, -1, -1, -1).due(BAD, "removeTerm", 1).due(BAD, "setQuiet", 0, 2)
                .due(ILLEGAL, "setBase", 0, 3).due(BAD, "take", 2).due(ILLEGAL, "restore", 0).load(-1002, "ch;")
                .due(1, "count", 8));
        S.says("Undo: a full chapter's insert and a 13th term record nothing", x -> x.terms(12).fill(0, 0, 40, 0)
                .due(FULL, "insert", 0, 0, 0).due(FULL, "addTerm", 20, -1, -1, -1).due(4, "undo").due(39, "count", 1));
        S.says("Undo: calls that are no actions record nothing", x -> x.load("ch0:a b;term a;term b;")
                .does("append", 'c')
                .does("clearText").does("count", 4).does("letter", 0, 0).does("base", 0).does("place", 0, 0, 1)
                .does("term", 0, 6).does("firstUse", 0, 0).does("mark", 0, 1).does("why", 0, 0, 0).does("nested", 0, 1)
                .does("gain", 0, 1, -1, -1).does("greediest").due(1, "count", 8));
        S.says("Undo: undo itself records nothing", x -> x.fill(0, 0, 3, 0).due(2, "undo").due(2, "count", 8)
                .due(1, "undo").due(0, "undo").due(NONE, "place", 0, 0, 0));
    }
}
