/** The sentences of promises 13 to 15, and of the section "Text". */
public final class Promises13To15Test {
    private static final int BAD = TermMarks.INVALID_ARGUMENT;
    private static final int FULL = TermMarks.CAPACITY_EXCEEDED;
    private static final int NONE = TermMarks.NONE;
    private static final int MIN = Integer.MIN_VALUE;
    private static final int MAX = Integer.MAX_VALUE;
    private static final Sentences S = new Sentences();

    public static void main(String[] args) {
        appending();
        clearing();
        loading();
        loadingErrors();
        items();
        chapterItems();
        termItems();
        formItems();
        keywords();
        spaces();
        order();
        tokens();
        grammarOfChapters();
        grammarOfTermsAndForms();
        longWords();
        tooManyWords();
        tooManyInARow();
        refusedTerms();
        refusedForms();
        endings();
        S.end();
    }

    private static void appending() {
        S.says("13: character: character code, 1 to 255", x -> x.due(BAD, "append", 0).due(BAD, "append", 256)
                .due(BAD, "append", -1).due(BAD, "append", MIN).due(BAD, "append", MAX).due(BAD, "append", 256 + 'a')
                .due(0, "count", 9).due(1, "append", 1).due(2, "append", 255).due(2, "count", 9));
        S.says("13: returns the new length of the text, up to 140", x -> {
            for (int length = 1; length <= 140; length++) {
                x.due(length, "append", ' ');
            }
            x.due(140, "count", 9);
        });
        S.says("13: CAPACITY_EXCEEDED if the text already has 140 characters", x -> x.type(" ".repeat(140))
                .due(FULL, "append", 'a').due(FULL, "append", ' ').due(FULL, "append", 255).due(140, "clearText")
                .due(1, "append", 'a'));
        S.says("13: CAPACITY_EXCEEDED does not change the text", x -> x.type("ch0:ab" + " ".repeat(133) + ";")
                .due(FULL, "append", 'x').due(140, "count", 9).due(1, "load").row(0, 26).spelled(26, "ab"));
        S.says("13: INVALID_ARGUMENT is listed before CAPACITY_EXCEEDED", x -> x.type(" ".repeat(140))
                .due(BAD, "append", 0).due(BAD, "append", 256).due(BAD, "append", -1));
        S.says("13: append is no action", x -> x.type("ch0:a;").due(0, "count", 8).row(0));
        S.changesNothing("13: a refused append changes nothing", x -> x.type("ch0:a;"),
                x -> x.due(BAD, "append", 0).due(BAD, "append", 256));
    }

    private static void clearing() {
        S.says("14: returns the previous length of the text, 0", x -> x.due(0, "clearText").due(0, "clearText"));
        S.says("14: returns the previous length of the text, 140", x -> x.type(" ".repeat(140)).due(140, "clearText")
                .due(0, "clearText"));
        S.says("14: makes the text empty", x -> x.type("ch0:a;ch1:").due(10, "clearText").due(0, "count", 9)
                .load(1, "ch2:b;").row(0).row(2, 1));
        S.says("14: clearText is no action", x -> x.load("ch0:a;").type("c").due(1, "clearText").due(1, "count", 8)
                .row(0, 0));
    }

    private static void loading() {
        S.says("15: the text becomes empty", x -> x.load(1, "ch0:a;").due(0, "count", 9).due(0, "clearText")
                .load(1, "ch1:b;").row(0, 0).row(1, 1));
        S.isAction("15: this is one action", x -> x.load("ch1:a;").does("insert", 0, 0, 0),
                x -> x.load(5, "ch0:b ab;ch1:;term ab;term b;form a=b;"));
        S.isAction("15: this is one action, also without items", x -> x.load("ch1:a;"), x -> x.load(0, ""));
        S.isAction("15: this is one action, also with spaces alone", x -> x.load("ch1:a;"), x -> x.load(0, "  "));
        S.says("15: returns the number of items, 0", x -> x.due(0, "load").due(0, "load").due(2, "count", 8));
        S.says("15: returns the number of items", x -> x.load(1, "term a;").load(2, "ch0:;ch0:;")
                .load(4, "form b=a;term c a;ch3:b b;form d=a;"));
        S.says("15: returns the number of items, 28 in a text of 140 characters", x -> x.load(28, "ch0:;".repeat(28)));
    }

    private static void loadingErrors() {
        S.changesNothing("15: if the text has an error, nothing changes, and the text is kept", x -> x
                .load("ch0:a;term a;").type("ch0:ab;ch1:a;term b;form c=b;ch6:;"), x -> x.due(-1031, "load"));
        S.says("15: the text that is kept can go on", x -> x.load(-1003, "ch0;").due(4, "count", 9)
                .due(5, "append", ':')
                .due(-1003, "load").due(5, "clearText").load(1, "ch0:a;"));
        S.says("15: the text that is kept ended too early, and goes on", x -> x.load(-1005, "ch0:a")
                .due(6, "append", 'b')
                .due(7, "append", ';').due(1, "load").spelled(26, "ab").row(0, 26).due(0, "count", 9));
        S.says("15: words of a text with an error do not stay", x -> x.error(9, "ch0:ab cd").due(26, "count", 0)
                .load("ch0:cd;").due(27, "count", 0).spelled(26, "cd"));
        S.says("15: -1000 minus the error position, 0", x -> x.load(-1000, ";"));
        S.says("15: -1000 minus the error position, 139", x -> x.load(-1139, "ch0:;".repeat(27) + "ch0:,"));
        S.says("15: -1000 minus the error position, 140", x -> x.load(-1140, "ch0:;".repeat(27) + "ch0: "));
    }

    private static void items() {
        S.says("Text: a text has at most 140 characters, which are all read", x -> x
                .load(1, Texts.words("ch0:", 40, 'a') + ";" + " ".repeat(56))
                .load(2, "ch2:;" + " ".repeat(129) + "ch1:c;")
                .row(1, 2).due(41, "count", 1));
        S.says("Text: a sequence of items, possibly none", x -> x.load(0, "").load(1, "ch0:;").load(2, "ch0:;ch1:;"));
        S.says("Text: each of which ends with \";\"", x -> x.error(5, "ch0:a").error(6, "term a").error(8, "form a=b")
                .error(8, "ch0:a ch1:b;").error(6, "term a:").error(0, ";").error(5, "ch0:;;"));
        S.says("Text: an item is one of three, each with its own first word", x -> x.error(0, "a;")
                .error(0, "chapter0:;")
                .error(0, "terms a;").error(0, "forms a=b;").error(0, "c;").error(0, "0:a;").error(0, ":;")
                .error(0, "=")
                .error(0, "cj0:;").error(0, "bh0:;").error(0, "germ a;").error(0, "tern a;").error(0, "worm a=b;")
                .error(0, "fort a=b;").error(0, "chch0:;").error(0, "ter a;").error(0, "or a=b;"));
        S.says("Text: also the second item begins with such a word", x -> x.error(5, "ch0:;a;").error(6, "ch0:; h0:;")
                .error(7, "term a;b;").error(9, "form a=b;=c;"));
    }

    private static void chapterItems() {
        S.says("Text: \"ch\" CHAPTER \":\" WORDs, none", x -> x.load(1, "ch0:;").row(0));
        S.says("Text: \"ch\" CHAPTER \":\" WORDs, one and more", x -> x.load(2, "ch0:a;ch1:b c b;").row(0, 0)
                .row(1, 1, 2, 1));
        S.says("Text: \"ch\" CHAPTER \":\" WORDs, 40", x -> x.load(1, Texts.words("ch3:", 40, 'e') + ";")
                .due(40, "count", 1)
                .due(4, "place", 3, 39, 0).due(NONE, "place", 3, 40, 0));
        S.says("Text: these are the words of the chapter then, none of the former ones", x -> x.load("ch2:a b c;ch3:d;")
                .load("ch2:e;").row(2, 4).row(3, 3).load("ch2:;").row(2).row(3, 3));
        S.says("Text: the other chapters keep theirs", x -> x.load("ch0:a;ch1:b;ch2:c;ch3:d;ch4:e;ch5:f;")
                .load("ch3:z z;")
                .row(0, 0).row(1, 1).row(2, 2).row(3, 25, 25).row(4, 4).row(5, 5));
        S.says("Text: CHAPTER is one digit, 0 to 5", x -> x.load(2, "ch0:a;ch5:b;").row(0, 0).row(5, 1)
                .error(2, "ch6:;")
                .error(2, "ch9:;").error(2, "ch/:;").error(2, "ch::;").error(2, "ch-1:;").error(2, "ch:;"));
        S.says("Text: CHAPTER is one digit, not two", x -> x.error(3, "ch00:;").error(3, "ch05:;").error(4, "ch0 1:;")
                .error(3, "ch0"));
    }

    private static void termItems() {
        S.says("Text: \"term\" WORDs, 1", x -> x.load(1, "term a;").term(0, 0));
        S.says("Text: \"term\" WORDs, 2 and 3", x -> x.load(2, "term a b;term c b a;").term(0, 0, 1).term(1, 2, 1, 0));
        S.says("Text: \"term\" WORDs, 4", x -> x.load(1, "term d c b a;").term(0, 3, 2, 1, 0));
        S.says("Text: \"term\" WORDs, not none", x -> x.error(4, "term;").error(5, "term ;").error(6, "term  =;"));
        S.says("Text: a term that is added, behind the others and not quiet", x -> x.load("term a;")
                .does("setQuiet", 0, 1)
                .load("term b;term c;").term(0, 0).term(1, 1).term(2, 2).due(1, "count", 3).due(0, "term", 1, 5));
        S.says("Text: a term that is added, with new words", x -> x.load("term zz yy zz;").term(0, 26, 27, 26)
                .spelled(26, "zz").spelled(27, "yy"));
        S.says("Text: a term that is added, the 12th", x -> x.terms(11).load(1, "term z;").term(11, 25));
    }

    private static void formItems() {
        S.says("Text: the base of the second one becomes the base of the first one", x -> x.load(1, "form b=a;")
                .due(0, "base", 1).due(0, "base", 0).load(1, "form c=b;").due(0, "base", 2));
        S.says("Text: the second one may be the first one", x -> x.load(1, "form a=a;").due(0, "base", 0)
                .load(1, "form b=a;").load(1, "form b=b;").due(0, "base", 1));
        S.says("Text: the second one may be a form of the first one", x -> x.load("form b=a;").load(1, "form a=b;")
                .due(0, "base", 0).due(0, "base", 1));
        S.says("Text: as setBase() does it: a form becomes one of another word", x -> x.load("form b=a;")
                .load(1, "form b=c;").due(2, "base", 1).load(1, "form a=b;").due(2, "base", 0));
        S.says("Text: both may be new words, which have themselves as bases before", x -> x.load(1, "form ab=cd;")
                .due(28, "count", 0).due(27, "base", 26).due(27, "base", 27).spelled(26, "ab").spelled(27, "cd"));
        S.says("Text: a form may have one new word twice", x -> x.load(1, "form ab=ab;").due(27, "count", 0)
                .due(26, "base", 26));
    }

    private static void keywords() {
        S.says("Text: \"ch\", \"term\" and \"form\" are words elsewhere, in a chapter", x -> x
                .load(1, "ch0:ch term form ch;").row(0, 26, 27, 28, 26).spelled(26, "ch").spelled(27, "term")
                .spelled(28, "form"));
        S.says("Text: \"ch\", \"term\" and \"form\" are words elsewhere, in a term", x -> x
                .load(1, "term term ch form term;")
                .term(0, 26, 27, 28, 26));
        S.says("Text: \"ch\", \"term\" and \"form\" are words elsewhere, in a form", x -> x
                .load(2, "form form=ch;form term=form;")
                .due(27, "base", 26).due(27, "base", 28));
        S.says("Text: they do not begin an item before the \";\"", x -> x.error(7, "form a term b;")
                .error(13, "term a b c d term;")
                .error(9, "form a=b ch0:;").error(9, "term a ch0:;"));
        S.says("Text: a keyword that is a word counts as one", x -> x.error(13, "term a b c d ch;")
                .load(1, "term a b c ch;").term(0, 0, 1, 2, 26));
    }

    private static void spaces() {
        S.says("Text: spaces may stand before, between and after all these", x -> x
                .load(3, "  ch  3  :  ab   b  ;  term  ab  b  ;  form  b  =  c  ;  ").row(3, 26, 1).term(0, 26, 1)
                .due(2, "base", 1));
        S.says("Text: they are needed only between two runs of letters", x -> x
                .load(4, "ch3:ab b;term ab b;form b=c;ch4:;")
                .row(3, 26, 1).term(0, 26, 1).due(2, "base", 1));
        S.says("Text: without a space two runs are one", x -> x.error(0, "terma;").error(0, "forma=b;").load("ch0:ab;")
                .row(0, 26));
        S.says("Text: a space parts a run", x -> x.error(0, "c h0:;").error(0, "te rm a;").load("ch0:a b;")
                .row(0, 0, 1));
        S.says("Text: nothing but code 32 is a space", x -> x.error(5, "ch0:a\tb;").error(5, "ch0:;\n")
                .error(0, "\rch0:;")
                .error(4, "ch0:" + (char) 160 + "a;").error(5, "ch0:a" + (char) 31 + ";")
                .error(5, "ch0:a" + (char) 33 + ";")
                .error(4, "term" + (char) 1 + "a;").error(6, "term a" + (char) 255 + ";"));
    }

    private static void order() {
        S.says("Text: the items are carried out in their order: chapters", x -> x.load(2, "ch0:a;ch0:b c;").row(0, 1, 2)
                .load(2, "ch0:b c;ch0:;").row(0));
        S.says("Text: in their order: terms and forms", x -> x.error(22, "term a;term b;form a=b;")
                .error(22, "term a;form a=b;term b;").error(22, "form a=b;term a;term b;").load(2, "term a;form b=a;"));
        S.says("Text: in their order: a form of a form", x -> x.load(2, "form b=a;form c=b;").due(0, "base", 2));
        S.says("Text: in their order: the other way round it is not possible", x -> x.error(17, "form c=b;form b=a;"));
        S.says("Text: in their order: new words get the next numbers", x -> x.load("term bb aa;form cc=dd;ch0:ee bb;")
                .spelled(26, "bb").spelled(27, "aa").spelled(28, "cc").spelled(29, "dd").spelled(30, "ee")
                .row(0, 30, 26));
    }

    private static void tokens() {
        S.says("Text: WORD is a maximal run of letters a to z", x -> x.load("ch0:a aa aaa az za;")
                .row(0, 0, 26, 27, 28, 29)
                .spelled(28, "az").spelled(29, "za").error(5, "ch0:a`;").error(5, "ch0:z{;").error(4, "ch0:A;")
                .error(4, "ch0:Z;"));
        S.says("Text: a token is a run of letters, or any other character that is no space", x -> x.error(3, "ch12:;")
                .error(4, "ch0:--;").error(5, "ch0:aB;")
                .error(7, "form a==b;").error(5, "ch0:a..;").error(0, "Ch0:;").error(0, "TERM a;"));
        S.says("Text: the error position is that of the first error", x -> x.error(4, "ch0:1 2;ch9")
                .error(2, "ch7;term;"));
        S.says("Text: the offset is that of the token's first character, spaces do not belong to it", x -> x
                .error(8, "ch0:a   1;").error(6, "  ch0 a:;").error(5, "ch   9:;").error(2, "  x"));
    }

    private static void grammarOfChapters() {
        S.says("Text: not allowed by the grammar, behind \"ch\"", x -> x.error(2, "ch;").error(3, "ch a:;")
                .error(2, "ch=;")
                .error(2, "ch:0;").error(3, "ch ch0:;"));
        S.says("Text: not allowed by the grammar, behind CHAPTER", x -> x.error(3, "ch0;").error(3, "ch0a;")
                .error(3, "ch0=;")
                .error(4, "ch0 ;").error(3, "ch01;"));
        S.says("Text: not allowed by the grammar, among the words of a chapter", x -> x.error(4, "ch0:=;")
                .error(4, "ch0::;")
                .error(5, "ch0:a=b;").error(5, "ch0:a,b;").error(6, "ch0:a 0;").error(5, "ch0:a:b;"));
    }

    private static void grammarOfTermsAndForms() {
        S.says("Text: not allowed by the grammar, behind \"term\"", x -> x.error(4, "term:a;").error(5, "term 1;")
                .error(4, "term=a;").error(4, "term0;"));
        S.says("Text: not allowed by the grammar, among the words of a term", x -> x.error(6, "term a=b;")
                .error(6, "term a:;")
                .error(7, "term a 1;").error(12, "term a b c d=;").error(13, "term a b c d 1;"));
        S.says("Text: not allowed by the grammar, behind \"form\"", x -> x.error(4, "form;").error(5, "form ;")
                .error(4, "form=a;").error(4, "form:a;").error(4, "form1=a;"));
        S.says("Text: not allowed by the grammar, behind the first word of a form", x -> x.error(6, "form a;")
                .error(7, "form a b;")
                .error(6, "form a:b;").error(6, "form a1;"));
        S.says("Text: not allowed by the grammar, behind \"=\"", x -> x.error(7, "form a=;").error(7, "form a==b;")
                .error(7, "form a=1;"));
        S.says("Text: not allowed by the grammar, behind the second word of a form", x -> x.error(9, "form a=b c;")
                .error(8, "form a=b=c;").error(8, "form a=b:;").error(8, "form a=b1;"));
    }

    private static void longWords() {
        S.says("Text: a WORD of 8 letters is allowed", x -> x
                .load(3, "ch0:abcdefgh;term bcdefghi;form cdefghij=defghijk;")
                .spelled(26, "abcdefgh").spelled(27, "bcdefghi").spelled(28, "cdefghij").spelled(29, "defghijk"));
        S.says("Text: not allowed: a WORD of more than 8 letters, in a chapter", x -> x.error(4, "ch0:abcdefghi;")
                .error(6, "ch0:a abcdefghijklmnopqrstuvwxyz;").error(4, "ch0:abcdefghi"));
        S.says("Text: not allowed: a WORD of more than 8 letters, in a term", x -> x.error(5, "term abcdefghi;")
                .error(11, "term a b c abcdefghi;"));
        S.says("Text: not allowed: a WORD of more than 8 letters, in a form", x -> x.error(5, "form abcdefghi=a;")
                .error(7, "form a=abcdefghi;"));
    }

    private static void tooManyWords() {
        S.says("Text: the 60th WORD is allowed, and all 60 after it", x -> x.load(Texts.allWords()).due(60, "count", 0)
                .load(3, "ch1:aa bh a z;term bh;form bg=bh;").due(60, "count", 0).row(1, 26, 59, 0, 25));
        S.says("Text: not allowed: a WORD that would be the 61st, in a chapter", x -> x.load(Texts.allWords())
                .error(7, "ch1:aa zz;").error(4, "ch1:bi;"));
        S.says("Text: not allowed: a WORD that would be the 61st, in a term", x -> x.load(Texts.allWords())
                .error(5, "term zz;").error(8, "term aa zz"));
        S.says("Text: not allowed: a WORD that would be the 61st, in a form", x -> x.load(Texts.allWords())
                .error(5, "form zz=a;").error(7, "form a=zz;"));
        S.says("Text: not allowed: a WORD that would be the 61st, also if an item could begin with it", x -> x
                .load(Texts.allWords()).error(6, "ch2:a term b;").error(7, "term a term b;").error(5, "form term b;")
                .error(7, "form a=term b;").error(4, "ch2:ch0:;"));
        S.says("Text: not allowed: a WORD of more than 8 letters, also behind another word of a form", x -> x
                .error(7, "form a abcdefghi;").error(9, "form a=b abcdefghi;"));
        S.says("Text: not allowed: the 61st within one text", x -> x.load("ch0:" + Texts.pairs('a', 26) + ";")
                .error(28, "ch1:" + Texts.pairs('b', 9) + ";").load("ch1:" + Texts.pairs('b', 8) + ";")
                .due(60, "count", 0));
        S.says("Text: a word that was there is not the 61st", x -> x.load(Texts.allWords()).error(11, "term bh aa zz;")
                .load(1, "ch0:;").error(4, "ch1:zz;").load(1, "ch1:ac;").row(1, 28));
    }

    private static void tooManyInARow() {
        S.says("Text: not allowed: the 41st WORD of a chapter", x -> x.error(84, Texts.words("ch0:", 41, 'a') + ";"));
        S.says("Text: not allowed: the 41st WORD of a chapter, also if it is new or too long", x -> x
                .error(85, Texts.words("ch0: ", 40, 'a') + " abcdefghi;").due(26, "count", 0));
        S.says("Text: the WORDs of a chapter are counted anew, also if it had 40", x -> x.fill(0, 0, 40, 0)
                .load(1, "ch0:a b;").row(0, 0, 1));
        S.says("Text: not allowed: the fifth WORD of a term", x -> x.error(13, "term a b c d e;")
                .error(13, "term a b c d a;")
                .error(14, "term a b c d  abcdefghi;").load(1, "term a b c d;"));
    }

    private static void refusedTerms() {
        S.says("Text: not allowed: the \";\" behind a term that is like another one", x -> x.load("term a b;")
                .error(8, "term a b;").error(10, "term a b  ;").load(1, "term b a;"));
        S.says("Text: not allowed: the \";\" behind a term that is like another one of the text", x -> x
                .error(17, "term a b;term a b;").error(22, "form b=a;term b;term a;").error(15, "term b;  term b;"));
        S.says("Text: not allowed: the \";\" behind a term that is like another one by its bases", x -> x
                .load("term a c;form b=a;")
                .error(8, "term b c;").load(1, "term c b;"));
        S.says("Text: not allowed: the \";\" behind a term that would be the 13th", x -> x.terms(12).error(6, "term z;")
                .error(17, "ch0:a;term  z y  ;").due(12, "count", 2));
        S.says("Text: not allowed: the 13th and one like another, each alone", x -> x.terms(12).error(6, "term a;")
                .does("removeTerm", 0).error(6, "term b;").load(1, "term a;"));
        S.says("Text: of such a term no other token is the error", x -> x.terms(12).error(6, "term z=")
                .error(6, "term a")
                .error(7, "term z ").error(13, "term z y x w v;"));
    }

    private static void refusedForms() {
        S.says("Text: not allowed: the \";\" behind a form that is not possible, the first word having forms", x -> x
                .load("form b=a;").error(8, "form a=c;").error(10, "form a=c  ;").due(0, "base", 0));
        S.says("Text: not allowed: the \";\" behind a form that is not possible, two terms being alike", x -> x
                .load("term a b;term c b;").error(8, "form a=c;").error(8, "form c=a;").load(1, "form b=c;"));
        S.says("Text: not allowed: the \";\" behind a form that is not possible within a text", x -> x
                .error(17, "form b=a;form a=c;").error(22, "term a;term b;form a=b;"));
        S.says("Text: of such a form no other token is the error", x -> x.load("form b=a;").error(8, "form a=c")
                .error(9, "form a=c d;")
                .error(8, "form a=c=").error(9, "form a=c "));
    }

    private static void endings() {
        S.says("Text: if the text ends where something is missing, it is the length of the text: chapters", x -> x
                .error(2, "ch").error(3, "ch0").error(4, "ch0:").error(5, "ch0:a").error(7, "ch0:a b")
                .error(10, "ch0:;ch1:a"));
        S.says("Text: if the text ends where something is missing: terms", x -> x.error(4, "term").error(6, "term a")
                .error(12, "term a b c d"));
        S.says("Text: if the text ends where something is missing: forms", x -> x.error(4, "form").error(6, "form a")
                .error(7, "form a=").error(8, "form a=b"));
        S.says("Text: the length of the text, with the spaces at its end", x -> x.error(5, "ch   ").error(6, "ch0:a ")
                .error(6, "term  ").error(9, "form a=  ").error(10, "form a=b  "));
        S.says("Text: nothing is missing at the end of a text behind an item", x -> x.load(1, "ch0:a;")
                .load(1, "ch0:a;   "));
    }
}
