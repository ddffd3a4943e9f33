/** Promises 13 to 15: append, clearText, load. */
public final class TextTest {
    private static final Check CHECK = new Check();
    private static final int BAD = TermMarks.INVALID_ARGUMENT;

    public static void main(String[] args) {
        appending();
        clearing();
        loading();
        spaces();
        keywordsAsWords();
        newWords();
        grammarErrors();
        wordErrors();
        chapterErrors();
        termErrors();
        formItems();
        afterErrors();
        order();
        CHECK.end();
    }

    private static void appending() {
        TermMarks x = new TermMarks();
        CHECK.due("append(0)", x.append(0), BAD);
        CHECK.due("append(256)", x.append(256), BAD);
        CHECK.due("append(-1)", x.append(-1), BAD);
        CHECK.due("append(min)", x.append(Integer.MIN_VALUE), BAD);
        CHECK.due("append(max)", x.append(Integer.MAX_VALUE), BAD);
        CHECK.due("length", x.count(9), 0);
        CHECK.due("append(1)", x.append(1), 1);
        CHECK.due("append(255)", x.append(255), 2);
        for (int length = 3; length <= 140; length++) {
            CHECK.due("append to " + length, x.append(' '), length);
        }
        CHECK.due("append of the 141st", x.append(' '), TermMarks.CAPACITY_EXCEEDED);
        CHECK.due("append(256) to a full text", x.append(256), BAD);
        CHECK.due("append(0) to a full text", x.append(0), BAD);
        CHECK.due("length", x.count(9), 140);
        CHECK.due("states", x.count(8), 0);
    }

    private static void clearing() {
        TermMarks x = new TermMarks();
        CHECK.due("clearText() of nothing", x.clearText(), 0);
        Check.type(x, "ch0:a;");
        CHECK.due("clearText()", x.clearText(), 6);
        CHECK.due("length", x.count(9), 0);
        CHECK.due("clearText() again", x.clearText(), 0);
        CHECK.due("load() of nothing", x.load(), 0);
        CHECK.due("append behind it", x.append('c'), 1);
        CHECK.due("states", x.count(8), 1);
    }

    private static void loading() {
        TermMarks x = new TermMarks();
        Check.type(x, "ch0:red fox a red foxes;term red fox;term fox;form foxes=fox;ch5:;");
        CHECK.due("load()", x.load(), 5);
        CHECK.due("the text is empty", x.count(9), 0);
        CHECK.due("it is one action", x.count(8), 1);
        CHECK.due("words", x.count(0), 29);
        CHECK.due("words of chapters", x.count(1), 5);
        CHECK.due("terms", x.count(2), 2);
        CHECK.due("base(28)", x.base(28), 27);
        CHECK.due("readings", x.count(5), 2);
        CHECK.due("a chapter that is loaded again", Check.load(x, "ch0:b c;ch0:c;"), 2);
        CHECK.due("its words", x.count(1), 1);
        CHECK.due("its word", x.place(0, 0, 0), 2);
        CHECK.due("a chapter that becomes empty", Check.load(x, "ch0:;"), 1);
        CHECK.due("its words", x.count(1), 0);
        CHECK.due("states", x.count(8), 3);
        CHECK.due("undo()", x.undo(), 2);
        CHECK.due("words again", x.count(1), 1);
        CHECK.due("a term is not quiet", x.term(0, 5), 0);
        for (int chapter = 0; chapter < 6; chapter++) {
            CHECK.due("load of chapter " + chapter, Check.load(x, "ch" + chapter + ":z;"), 1);
            CHECK.due("its word", x.place(chapter, 0, 0), 25);
        }
    }

    private static void spaces() {
        TermMarks x = new TermMarks();
        CHECK.due("spaces alone", Check.load(x, "   "), 0);
        CHECK.due("one action, also without items", x.count(8), 1);
        CHECK.due("the text is empty then", x.count(9), 0);
        CHECK.due("spaces everywhere", Check.load(x, "  ch 3 :  ab   b ; term  ab  b ;  form b = c ; "), 3);
        CHECK.due("no spaces", Check.load(x, "form d=e;ch4:d;term d;"), 3);
        CHECK.due("a space in ch", Check.load(x, "c h0:;"), -1000);
        CHECK.due("no space behind term", Check.load(x, "terma;"), -1000);
        CHECK.due("no space behind form", Check.load(x, " forma=b;"), -1001);
        CHECK.due("a tab is no space", Check.load(x, "ch0:a\tb;"), -1005);
        CHECK.due("a new line is no space", Check.load(x, "ch0:;\n"), -1005);
        CHECK.due("a 160 is no space", Check.load(x, (char) 160 + "ch0:;"), -1000);
    }

    private static void keywordsAsWords() {
        TermMarks x = new TermMarks();
        CHECK.due("keywords as words", Check.load(x, "ch0:ch term form;term ch;term term;form form=term;"), 4);
        CHECK.due("words", x.count(0), 29);
        CHECK.due("letter(26, 0)", x.letter(26, 0), 'c');
        CHECK.due("base(28)", x.base(28), 27);
        CHECK.due("readings", x.count(5), 3);
    }

    private static void newWords() {
        TermMarks x = new TermMarks();
        CHECK.due("words in the order of the text", Check.load(x, "term bb aa;form cc=dd;ch0:ee bb abcdefgh b;"), 3);
        String[] due = {"bb", "aa", "cc", "dd", "ee", "abcdefgh"};
        for (int i = 0; i < due.length; i++) {
            for (int index = 0; index <= due[i].length(); index++) {
                CHECK.due("letter(" + (26 + i) + ", " + index + ")", x.letter(26 + i, index),
                        index < due[i].length() ? due[i].charAt(index) : TermMarks.NONE);
            }
        }
        CHECK.due("words", x.count(0), 32);
        CHECK.due("a word that is there", x.place(0, 1, 0), 26);
        CHECK.due("a letter", x.place(0, 3, 0), 1);
        CHECK.due("words that begin alike", Check.load(x, "ch1:b bb bbb;"), 1);
        CHECK.due("words", x.count(0), 33);
    }

    private static void error(String text, int position) {
        TermMarks x = Check.loaded("ch0:a b;term a;");
        String before = Check.all(x);
        CHECK.due("load() of \"" + text + "\"", Check.load(x, text), -1000 - position);
        CHECK.same("load() of \"" + text + "\" changes nothing", Check.all(x), before);
        CHECK.due("the text is kept", x.count(9), text.length());
        CHECK.due("no state is kept", x.count(8), 1);
    }

    private static void grammarErrors() {
        error("x", 0);
        error("chx0:;", 0);
        error("chapter0:;", 0);
        error("Ch0:;", 0);
        error(";", 0);
        error("0", 0);
        error("ch0:;;", 5);
        error("ch0:;  a", 7);
        error("  ch", 4);
        error("ch  ", 4);
        error("ch6:;", 2);
        error("ch/:;", 2);
        error("ch:;", 2);
        error("ch a:;", 3);
        error("ch0", 3);
        error("ch00:;", 3);
        error("ch0a:;", 3);
        error("ch0 ;", 4);
        error("ch0:", 4);
        error("ch0:a b", 7);
        error("ch0:a b  ", 9);
        error("ch0:a,b;", 5);
        error("ch0:a 1;", 6);
        error("ch0:aB;", 5);
        error("ch0:a=b;", 5);
        error("ch0:a:;", 5);
        error("term;", 4);
        error("term ;", 5);
        error("term", 4);
        error("term  ", 6);
        error("term b", 6);
        error("term b=c;", 6);
        error("term:b;", 4);
        error("form;", 4);
        error("form b;", 6);
        error("form b c;", 7);
        error("form =b;", 5);
        error("form b=;", 7);
        error("form b=", 7);
        error("form b= ", 8);
        error("form b=c", 8);
        error("form b=c d;", 9);
        error("form b==c;", 7);
        error("form b=c=d;", 8);
        error("ch1:b;ch0:a;x", 12);
        error("ch1:a" + (char) 255 + ";", 5);
        error("ch1:a" + (char) 1 + ";", 5);
        error("xh0:;", 0);
        error("germ b;", 0);
        error("worm b=c;", 0);
        // A keyword begins no item as long as the one before it is not ended.
        error("ch0:a ch1:b;", 8);
        error("term b c d e term f;", 13);
        error("term b=term c;", 6);
        error("form b term c;", 7);
        error("form b form c=d;", 7);
        error("form b=c term d;", 9);
        error("form ;term b;", 5);
        error("{", 0);
        error("`", 0);
    }

    private static void wordErrors() {
        error("ch0:abcdefghi;", 4);
        error("ch0:a abcdefghi", 6);
        error("term a abcdefghi;", 7);
        error("form abcdefghi=a;", 5);
        error("form a=abcdefghi;", 7);
        TermMarks x = Check.loaded("ch0:" + pairs('a', 25) + ";", "ch1:" + pairs('b', 9) + ";");
        CHECK.due("words", x.count(0), 60);
        CHECK.due("the 61st word in a chapter", Check.load(x, "ch2:aa ba zz;"), -1010);
        CHECK.due("the 61st word in a term", Check.load(x, "term a zz;"), -1007);
        CHECK.due("the 61st word in a form", Check.load(x, "form zz=a;"), -1005);
        CHECK.due("the 61st word in a form's base", Check.load(x, "form a=zz;"), -1007);
        CHECK.due("a keyword as the 61st word of a chapter", Check.load(x, "ch2:a term b;"), -1006);
        CHECK.due("a keyword as the 61st word of a term", Check.load(x, "term a term b;"), -1007);
        CHECK.due("a keyword as the 61st word of a form", Check.load(x, "form term b;"), -1005);
        CHECK.due("a keyword as the 61st word of a form's base", Check.load(x, "form a=term b;"), -1007);
        CHECK.due("words then", x.count(0), 60);
        CHECK.due("the 60 words can be used", Check.load(x, "ch2:aa ba bi;"), 1);
        x.undo();
        x.undo();
        CHECK.due("room again after undo", Check.load(x, "ch2:zz;"), 1);
        x = Check.loaded("ch0:" + pairs('a', 26) + ";");
        CHECK.due("the 61st word within a text",
                Check.load(x, "ch1:" + pairs('b', 8) + ";ch2:ca;"), -1000 - 4 - 8 * 3 - 4);
    }

    /** Words of two letters with the same first one. */
    private static String pairs(char first, int count) {
        StringBuilder text = new StringBuilder();
        for (int i = 0; i < count; i++) {
            text.append(i == 0 ? "" : " ").append(first).append((char) ('a' + i));
        }
        return text.toString();
    }

    private static void chapterErrors() {
        StringBuilder text = new StringBuilder("ch0:");
        for (int i = 0; i < 40; i++) {
            text.append("a ");
        }
        TermMarks x = new TermMarks();
        CHECK.due("40 words", Check.load(x, text + ";"), 1);
        CHECK.due("words", x.count(1), 40);
        error(text + "b;", 84);
        error(text + "1;", 84);
        error(text.toString(), 84);
        CHECK.due("the 41st word that would be too long", Check.load(x, text + " abcdefghi;"), -1085);
    }

    private static void termErrors() {
        error("term b c d e f;", 13);
        error("term b c d e 1;", 13);
        error("term a;", 6);
        error("term a ;", 7);
        error("term a", 6);
        error("term a b;term b a;term a b;", 26);
        error("form b=a;term b;", 15);
        TermMarks x = Check.loaded("term b;term c;term d;term e;term f;term g;term h;term i;term j;term k;term l;");
        CHECK.due("the 12th term", Check.load(x, "term m;"), 1);
        CHECK.due("the 13th term", Check.load(x, "ch0:a;term  n o ;"), -1016);
        CHECK.due("the 13th term without an end", Check.load(x, "term n"), -1006);
        CHECK.due("the 13th term of five words", Check.load(x, "term n o p q r"), -1013);
        CHECK.due("the 13th term, another sign", Check.load(x, "term n="), -1006);
        CHECK.due("terms", x.count(2), 12);
        CHECK.due("words of a term that was not added", Check.load(x, "ch0:xy;"), 1);
        CHECK.due("words", x.count(0), 27);
    }

    private static void formItems() {
        TermMarks x = new TermMarks();
        CHECK.due("form b=a", Check.load(x, "form b=a;"), 1);
        CHECK.due("base(1)", x.base(1), 0);
        CHECK.due("form c=b takes b's base", Check.load(x, "form c=b;"), 1);
        CHECK.due("base(2)", x.base(2), 0);
        CHECK.due("form a=d, a has forms", Check.load(x, "form a=d;"), -1008);
        CHECK.due("form a=b is a's own base", Check.load(x, "form a=b;"), 1);
        CHECK.due("base(0)", x.base(0), 0);
        CHECK.due("form b=b keeps its base", Check.load(x, "form b=b;"), 1);
        CHECK.due("base(1)", x.base(1), 0);
        CHECK.due("form b=d", Check.load(x, "form b=d;"), 1);
        CHECK.due("base(1)", x.base(1), 3);
        CHECK.due("form z=z", Check.load(x, "form z=z;"), 1);
        error("form a=b;form b=c ;", 18);
        error("term b;form a=b;", 15);
        error("term b;form b=a;", 15);
        error("term b c;term b d;form c=d;", 26);
        error("term b c;term b d;form c=d", 26);
        error("term b c;term b d;form c=d e", 27);
    }

    private static void afterErrors() {
        TermMarks x = new TermMarks();
        Check.type(x, "ch0:ab cd;term ab;form cd=ab;x");
        CHECK.due("load() with an error", x.load(), -1029);
        CHECK.same("it changes nothing", Check.all(x), Check.all(new TermMarks()));
        CHECK.due("load() with the error again", x.load(), -1029);
        CHECK.due("the text can go on", x.append('y'), 31);
        CHECK.due("load() with the longer error", x.load(), -1029);
        CHECK.due("clearText()", x.clearText(), 31);
        CHECK.due("load() with another text", Check.load(x, "ch0:cd;"), 1);
        CHECK.due("the words of the error are not there", x.count(0), 27);
        CHECK.due("a text of two calls", x.append('c'), 1);
        CHECK.due("load() of a part", x.load(), -1000);
        Check.type(x, "h0:;");
        CHECK.due("load() of the whole", x.load(), 1);
    }

    private static void order() {
        TermMarks x = new TermMarks();
        CHECK.due("a term before a form that changes it", Check.load(x, "term a;form a=b;ch0:b;"), 3);
        CHECK.due("it is read", x.count(5), 1);
        CHECK.due("a form of a form within a text", Check.load(x, "form c=d;form e=c;"), 2);
        CHECK.due("base(4)", x.base(4), 3);
        CHECK.due("the text at its longest", Check.load(x, "ch0:a;".repeat(23) + "  "), 23);
        CHECK.due("an error at the text's end",
                Check.load(x, "ch0:a;".repeat(23) + "ch"), -1140);
    }
}
