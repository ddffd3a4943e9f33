/** Promises 10 to 12: take, restore, undo. */
public final class SnapshotsTest {
    private static final Check CHECK = new Check();
    private static final int BAD = TermMarks.INVALID_ARGUMENT;
    private static final int ILLEGAL = TermMarks.ILLEGAL_STATE;

    public static void main(String[] args) {
        takeAndRestore();
        wrongSlots();
        onlyChapters();
        undoEach();
        undoSnapshots();
        undoWords();
        history();
        CHECK.end();
    }

    private static void takeAndRestore() {
        TermMarks x = Check.loaded("ch0:a b;ch5:c d e;");
        CHECK.due("take(0)", x.take(0), 5);
        CHECK.due("snapshots", x.count(7), 1);
        x.insert(1, 0, 0);
        CHECK.due("take(1)", x.take(1), 6);
        CHECK.due("snapshots", x.count(7), 2);
        x.delete(5, 0, 2);
        CHECK.due("restore(0)", x.restore(0), 5);
        CHECK.due("place(5, 2, 0)", x.place(5, 2, 0), 4);
        CHECK.due("place(1, 0, 0)", x.place(1, 0, 0), TermMarks.NONE);
        CHECK.due("restore(1)", x.restore(1), 6);
        CHECK.due("place(1, 0, 0)", x.place(1, 0, 0), 0);
        CHECK.due("restore(0) once more", x.restore(0), 5);
        x.delete(5, 1, 1);
        CHECK.due("take(0) in place of the other", x.take(0), 4);
        CHECK.due("snapshots", x.count(7), 2);
        x.insert(0, 0, 25);
        CHECK.due("restore(0) of the new one", x.restore(0), 4);
        CHECK.due("place(5, 1, 0)", x.place(5, 1, 0), 4);
        x.insert(0, 0, 25);
        CHECK.due("restore(0) is not touched by edits", x.restore(0), 4);
    }

    private static void wrongSlots() {
        TermMarks x = Check.loaded("ch0:a b;");
        String before = Check.whole(x);
        CHECK.due("restore(0)", x.restore(0), ILLEGAL);
        CHECK.due("restore(1)", x.restore(1), ILLEGAL);
        CHECK.due("take(-1)", x.take(-1), BAD);
        CHECK.due("take(2)", x.take(2), BAD);
        CHECK.due("restore(-1)", x.restore(-1), BAD);
        CHECK.due("restore(2)", x.restore(2), BAD);
        CHECK.due("take(min)", x.take(Integer.MIN_VALUE), BAD);
        CHECK.due("restore(max)", x.restore(Integer.MAX_VALUE), BAD);
        CHECK.same("wrong slots", Check.whole(x), before);
        x.take(1);
        CHECK.due("restore(0) beside a full slot", x.restore(0), ILLEGAL);
        CHECK.due("restore(1)", x.restore(1), 2);
    }

    private static void onlyChapters() {
        TermMarks x = Check.loaded("ch0:ab b;term ab;");
        x.take(0);
        Check.load(x, "ch0:cd;form b=ab;term cd;");
        x.setQuiet(0, 1);
        Check.type(x, "ch");
        CHECK.due("restore(0)", x.restore(0), 2);
        CHECK.due("terms", x.count(2), 2);
        CHECK.due("quiet terms", x.count(3), 1);
        CHECK.due("words", x.count(0), 28);
        CHECK.due("base(1)", x.base(1), 26);
        CHECK.due("text", x.count(9), 2);
        CHECK.due("readings of ab", x.term(0, 6), 2);
    }

    private static void undoEach() {
        String before = Check.whole(undoSample());
        for (int action = 0; action < 11; action++) {
            TermMarks x = undoSample();
            act(x, action);
            CHECK.due("states after action " + action, x.count(8), 4);
            CHECK.due("undo() of action " + action, x.undo(), 3);
            CHECK.same("undo of action " + action, Check.whole(x), before);
        }
    }

    private static TermMarks undoSample() {
        TermMarks x = Check.loaded("ch0:a b a;ch3:c b;term a b;term c;form d=e;");
        x.take(0);
        x.insert(3, 0, 0);
        return x;
    }

    private static void act(TermMarks x, int action) {
        switch (action) {
            case 0: x.insert(0, 1, 5); break;
            case 1: x.delete(0, 0, 1); break;
            case 2: x.replace(0, 1); break;
            case 3: x.swap(0, 3); break;
            case 4: x.addTerm(1, 0, -1, -1); break;
            case 5: x.removeTerm(0); break;
            case 6: x.setQuiet(1, 1); break;
            case 7: x.setBase(6, 7); break;
            case 8: x.take(1); break;
            case 9: x.restore(0); break;
            default: x.take(0); break;
        }
    }

    private static void undoSnapshots() {
        TermMarks x = Check.loaded("ch0:a;");
        x.take(0);
        x.take(1);
        Check.load(x, "ch0:b c;");
        CHECK.due("snapshots after a load", x.count(7), 2);
        x.take(0);
        CHECK.due("undo() of a take in place of another", x.undo(), 4);
        CHECK.due("restore(0) of the first one", x.restore(0), 1);
        CHECK.due("place(0, 0, 0)", x.place(0, 0, 0), 0);
        x.undo();
        x.undo();
        CHECK.due("restore(1) after undos", x.restore(1), 1);
        x.undo();
        CHECK.due("undo() of the second take", x.undo(), 2);
        CHECK.due("restore(1) of an empty slot", x.restore(1), ILLEGAL);
        CHECK.due("undo() of the first take", x.undo(), 1);
        CHECK.due("restore(0) of an empty slot", x.restore(0), ILLEGAL);
        CHECK.due("snapshots", x.count(7), 0);
    }

    private static void undoWords() {
        TermMarks x = new TermMarks();
        Check.load(x, "ch0:ab cd;form ef=ab;");
        CHECK.due("words", x.count(0), 29);
        Check.type(x, "term ab;");
        CHECK.due("undo() of a load", x.undo(), 0);
        CHECK.due("words after undo", x.count(0), 26);
        CHECK.due("letter(26, 0) after undo", x.letter(26, 0), BAD);
        CHECK.due("insert(0, 0, 26) after undo", x.insert(0, 0, 26), BAD);
        CHECK.due("text after undo", x.count(9), 8);
        CHECK.due("load of the text that stayed", x.load(), 1);
        CHECK.due("words", x.count(0), 27);
        CHECK.due("base(26) is fresh", x.base(26), 26);
        Check.load(x, "term xyz;");
        CHECK.due("letter(27, 0)", x.letter(27, 0), 'x');
        CHECK.due("letter(27, 2)", x.letter(27, 2), 'z');
        x.undo();
        x.undo();
        Check.load(x, "ch1:zz;");
        CHECK.due("letter(26, 0) of another word", x.letter(26, 0), 'z');
    }

    private static void history() {
        TermMarks x = new TermMarks();
        CHECK.due("undo() of nothing", x.undo(), ILLEGAL);
        for (int i = 0; i < 7; i++) {
            x.insert(0, i, i);
            CHECK.due("states after " + i, x.count(8), Math.min(i + 1, 5));
        }
        for (int left = 4; left >= 0; left--) {
            CHECK.due("undo() to " + left, x.undo(), left);
            CHECK.due("words after undo", x.count(1), left + 2);
            CHECK.due("the last word after undo", x.place(0, left + 1, 0), left + 1);
        }
        CHECK.due("undo() of an empty history", x.undo(), ILLEGAL);
        CHECK.due("words then", x.count(1), 2);
        CHECK.due("states then", x.count(8), 0);
        x.insert(1, 0, 9);
        CHECK.due("undo() of one again", x.undo(), 0);
        CHECK.due("words then", x.count(1), 2);
        x.append('c');
        x.clearText();
        x.count(0);
        x.gain(0, -1, -1, -1);
        x.greediest();
        CHECK.due("calls that are no actions", x.count(8), 0);
    }
}
