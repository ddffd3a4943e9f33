/** Promises 2 to 5: insert, delete, replace, swap. */
public final class ChaptersTest {
    private static final Check CHECK = new Check();
    private static final int BAD = TermMarks.INVALID_ARGUMENT;

    public static void main(String[] args) {
        insertWords();
        insertWrong();
        insertFull();
        deleteWords();
        deleteWrong();
        replaceWords();
        replaceWrong();
        swapChapters();
        swapWrong();
        CHECK.end();
    }

    private static void row(String when, TermMarks x, int chapter, int... words) {
        for (int place = 0; place < words.length; place++) {
            CHECK.due(when + ": place(" + chapter + ", " + place + ", 0)", x.place(chapter, place, 0), words[place]);
        }
        CHECK.due(when + ": place behind the last word", x.place(chapter, words.length, 0), TermMarks.NONE);
    }

    private static void insertWords() {
        TermMarks x = new TermMarks();
        CHECK.due("insert(0, 0, 3)", x.insert(0, 0, 3), 1);
        CHECK.due("insert(0, 1, 25)", x.insert(0, 1, 25), 2);
        CHECK.due("insert(0, 0, 0)", x.insert(0, 0, 0), 3);
        CHECK.due("insert(0, 1, 7)", x.insert(0, 1, 7), 4);
        row("after inserts", x, 0, 0, 7, 3, 25);
        CHECK.due("insert(5, 0, 3)", x.insert(5, 0, 3), 1);
        row("after inserts", x, 5, 3);
        row("after inserts", x, 1);
        CHECK.due("count(1)", x.count(1), 5);
        CHECK.due("count(8)", x.count(8), 5);
        CHECK.due("undo()", x.undo(), 4);
        row("after undo", x, 5);
        Check.load(x, "term ab;");
        CHECK.due("insert of a word of a text", x.insert(5, 0, 26), 1);
    }

    private static void insertWrong() {
        TermMarks x = Check.loaded("ch2:a b;");
        String before = Check.whole(x);
        CHECK.due("insert(-1, 0, 0)", x.insert(-1, 0, 0), BAD);
        CHECK.due("insert(6, 0, 0)", x.insert(6, 0, 0), BAD);
        CHECK.due("insert(2, -1, 0)", x.insert(2, -1, 0), BAD);
        CHECK.due("insert(2, 3, 0)", x.insert(2, 3, 0), BAD);
        CHECK.due("insert(1, 1, 0)", x.insert(1, 1, 0), BAD);
        CHECK.due("insert(2, 0, -1)", x.insert(2, 0, -1), BAD);
        CHECK.due("insert(2, 0, 26)", x.insert(2, 0, 26), BAD);
        CHECK.due("insert(max, max, max)", x.insert(Integer.MAX_VALUE, Integer.MAX_VALUE, Integer.MAX_VALUE), BAD);
        CHECK.due("insert(2, min, 0)", x.insert(2, Integer.MIN_VALUE, 0), BAD);
        CHECK.due("insert(2, max, 0)", x.insert(2, Integer.MAX_VALUE, 0), BAD);
        CHECK.same("wrong inserts", Check.whole(x), before);
    }

    private static void insertFull() {
        TermMarks x = new TermMarks();
        for (int i = 0; i < 40; i++) {
            CHECK.due("insert " + i, x.insert(3, i, i % 26), i + 1);
        }
        CHECK.due("insert of the 41st", x.insert(3, 0, 0), TermMarks.CAPACITY_EXCEEDED);
        CHECK.due("insert of the 41st at the end", x.insert(3, 40, 0), TermMarks.CAPACITY_EXCEEDED);
        CHECK.due("insert behind the end of a full chapter", x.insert(3, 41, 0), BAD);
        CHECK.due("insert of no word into a full chapter", x.insert(3, 0, 26), BAD);
        CHECK.due("words of the full chapter", x.count(1), 40);
        CHECK.due("insert elsewhere", x.insert(4, 0, 0), 1);
        CHECK.due("delete of one", x.delete(3, 39, 39), 39);
        CHECK.due("insert when one is gone", x.insert(3, 0, 5), 40);
        CHECK.due("the first word", x.place(3, 0, 0), 5);
        CHECK.due("the last word", x.place(3, 39, 0), 12);
    }

    private static void deleteWords() {
        TermMarks x = Check.loaded("ch0:a b c d e f g;ch1:a b;");
        CHECK.due("delete(0, 2, 3)", x.delete(0, 2, 3), 5);
        row("delete(0, 2, 3)", x, 0, 0, 1, 4, 5, 6);
        CHECK.due("delete(0, 0, 0)", x.delete(0, 0, 0), 4);
        row("delete(0, 0, 0)", x, 0, 1, 4, 5, 6);
        CHECK.due("delete(0, 3, 3)", x.delete(0, 3, 3), 3);
        row("delete(0, 3, 3)", x, 0, 1, 4, 5);
        CHECK.due("delete(0, 0, 2)", x.delete(0, 0, 2), 0);
        row("delete(0, 0, 2)", x, 0);
        row("deletes elsewhere", x, 1, 0, 1);
        CHECK.due("count(8)", x.count(8), 5);
        CHECK.due("undo()", x.undo(), 4);
        row("undo of a delete", x, 0, 1, 4, 5);
    }

    private static void deleteWrong() {
        TermMarks x = Check.loaded("ch0:a b c;");
        String before = Check.whole(x);
        CHECK.due("delete(-1, 0, 0)", x.delete(-1, 0, 0), BAD);
        CHECK.due("delete(6, 0, 0)", x.delete(6, 0, 0), BAD);
        CHECK.due("delete(0, -1, 0)", x.delete(0, -1, 0), BAD);
        CHECK.due("delete(0, 0, 3)", x.delete(0, 0, 3), BAD);
        CHECK.due("delete(0, 3, 3)", x.delete(0, 3, 3), BAD);
        CHECK.due("delete(0, 2, 1)", x.delete(0, 2, 1), BAD);
        CHECK.due("delete(0, 0, -1)", x.delete(0, 0, -1), BAD);
        CHECK.due("delete(1, 0, 0)", x.delete(1, 0, 0), BAD);
        CHECK.due("delete(0, min, max)", x.delete(0, Integer.MIN_VALUE, Integer.MAX_VALUE), BAD);
        CHECK.due("delete(0, 0, max)", x.delete(0, 0, Integer.MAX_VALUE), BAD);
        CHECK.same("wrong deletes", Check.whole(x), before);
    }

    private static void replaceWords() {
        // 26 "cat", 27 "cats", 28 "dog"
        TermMarks x = Check.loaded("form cats=cat;ch0:cat cats cat;ch5:cat dog;term cat;", "ch1:dog;");
        x.take(0);
        CHECK.due("replace of cat", x.replace(27, 28), 3);
        row("replace", x, 0, 28, 26, 28);
        row("replace", x, 5, 28, 28);
        CHECK.due("the term stays", x.term(0, 1), 27);
        CHECK.due("the base stays", x.base(26), 27);
        CHECK.due("replace of what is nowhere", x.replace(27, 0), 0);
        CHECK.due("replace is an action also then", x.count(8), 5);
        x.insert(4, 0, 20);
        x.delete(4, 0, 0);
        CHECK.due("replace of what was deleted", x.replace(20, 21), 0);
        CHECK.due("restore(0)", x.restore(0), 6);
        row("the snapshot stays", x, 0, 27, 26, 27);
        CHECK.due("replace of cat once more", x.replace(27, 28), 3);
        CHECK.due("undo of a replace", x.undo(), 4);
        row("undo of a replace", x, 0, 27, 26, 27);
    }

    private static void replaceWrong() {
        TermMarks x = Check.loaded("ch0:a b c;");
        String before = Check.whole(x);
        CHECK.due("replace(-1, 0)", x.replace(-1, 0), BAD);
        CHECK.due("replace(26, 0)", x.replace(26, 0), BAD);
        CHECK.due("replace(0, -1)", x.replace(0, -1), BAD);
        CHECK.due("replace(0, 26)", x.replace(0, 26), BAD);
        CHECK.due("replace(0, 0)", x.replace(0, 0), BAD);
        CHECK.due("replace(25, 25)", x.replace(25, 25), BAD);
        CHECK.due("replace(max, min)", x.replace(Integer.MAX_VALUE, Integer.MIN_VALUE), BAD);
        CHECK.same("wrong replaces", Check.whole(x), before);
    }

    private static void swapChapters() {
        TermMarks x = Check.loaded("ch0:a b;ch5:c;ch2:b b;term b;term c;");
        CHECK.due("swap(0, 5)", x.swap(0, 5), 3);
        row("swap(0, 5)", x, 0, 2);
        row("swap(0, 5)", x, 5, 0, 1);
        row("swap(0, 5)", x, 2, 1, 1);
        CHECK.due("the first mark's term", x.mark(0, 2), 1);
        CHECK.due("the last mark's chapter", x.mark(2, 0), 5);
        CHECK.due("swap(1, 2)", x.swap(1, 2), 3);
        row("swap(1, 2)", x, 1, 1, 1);
        row("swap(1, 2)", x, 2);
        String before = Check.all(x);
        CHECK.due("swap(3, 3)", x.swap(3, 3), 3);
        CHECK.due("swap(1, 1)", x.swap(1, 1), 3);
        CHECK.same("swaps with itself", Check.all(x), before);
        CHECK.due("count(8)", x.count(8), 5);
        CHECK.due("insert behind a swap", x.insert(2, 0, 2), 1);
        row("insert behind a swap", x, 1, 1, 1);
    }

    private static void swapWrong() {
        TermMarks x = Check.loaded("ch0:a b;ch5:c;");
        String before = Check.whole(x);
        CHECK.due("swap(-1, 0)", x.swap(-1, 0), BAD);
        CHECK.due("swap(0, -1)", x.swap(0, -1), BAD);
        CHECK.due("swap(6, 0)", x.swap(6, 0), BAD);
        CHECK.due("swap(0, 6)", x.swap(0, 6), BAD);
        CHECK.due("swap(6, 6)", x.swap(6, 6), BAD);
        CHECK.due("swap(min, max)", x.swap(Integer.MIN_VALUE, Integer.MAX_VALUE), BAD);
        CHECK.same("wrong swaps", Check.whole(x), before);
    }
}
