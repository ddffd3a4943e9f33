/** Long runs of calls, the same ones each time, whose answers are compared with the model's. */
public final class RandomTest {
    private static final int RUNS = 1200;
    /** Behind so many calls of an object, nothing is promised. */
    private static final int CALLS = 512;
    private static final int[] EDGES = {-1, -2, -99, 40, 41, 60, 140, 255, 256, Integer.MAX_VALUE, Integer.MIN_VALUE};
    private static final String[] SCRAPS = {
        "ch", "term", "form", ":", ";", "=", " ", "  ", "0", "5", "6", "a", "b", "c", "ab", "abcdefgh", "abcdefghi",
        "A", ",", ";ch1:", ";term "};

    private static long seed = 1;
    /** Calls of the present run. */
    private static int calls = 0;
    private static int wrong = 0;
    private static int alphabet = 3;
    /** One of so many words in texts is longer than a letter. */
    private static int rareness = 6;

    public static void main(String[] args) {
        int all = 0;
        for (int run = 0; run < RUNS && wrong < 20; run++) {
            seed = run * 7919L + 17;
            alphabet = 2 + next(5);
            rareness = 1 + next(8);
            calls = 0;
            run(run);
            all += calls;
        }
        System.out.println(all + " calls compared, " + wrong + " answers are not as due");
        if (wrong != 0) {
            System.exit(1);
        }
    }

    private static int next(int bound) {
        seed = seed * 6364136223846793005L + 1442695040888963407L;
        return (int) ((seed >>> 33) % bound);
    }

    /** Calls of all kinds, and then calls that look at what they have left. */
    private static void run(int run) {
        TermMarks x = new TermMarks();
        Model model = new Model();
        int changing = 100 + next(300);
        while (calls < changing) {
            if (next(12) == 0) {
                typed(x, model, run, text());
            } else {
                call(x, model, run, next(34));
            }
        }
        while (calls < CALLS) {
            int chapter = next(6);
            int place = next(model.length(chapter) + 2);
            int word = next(model.count(0) + 2);
            int term = next(model.count(2) + 2);
            looks(x, model, run, next(10), new int[] {chapter, place, word, term, next(4)});
        }
    }

    /** Compares the answers of one call. */
    private static void due(int run, String call, int got, int want) {
        calls++;
        if (got != want) {
            wrong++;
            System.out.println("run " + run + ", call " + calls + ": " + call + " answered " + got
                    + ", due is " + want);
        }
    }

    private static void typed(TermMarks x, Model model, int run, String text) {
        due(run, "clearText()", x.clearText(), model.clearText());
        for (int i = 0; i < text.length() && calls < CALLS - 1; i++) {
            due(run, "append", x.append(text.charAt(i)), model.append(text.charAt(i)));
        }
        due(run, "load() of " + text, x.load(), model.load());
    }

    /** A number from 0 on, sometimes another one. */
    private static int number(int bound) {
        return next(40) == 0 ? EDGES[next(EDGES.length)] : next(bound);
    }

    private static int word() {
        return next(9) == 0 ? number(60) : number(alphabet);
    }

    private static void call(TermMarks x, Model model, int run, int kind) {
        int chapter = number(next(3) == 0 ? 6 : 2);
        int place = number(next(6) == 0 ? 41 : model.length(chapter) + 1);
        int word = word();
        int other = word();
        int term = number(next(6) == 0 ? 13 : model.count(2) + 1);
        int slot = number(3);
        String call = kind + "(" + chapter + " " + place + " " + word + " " + other + " " + term + " " + slot + ")";
        switch (kind) {
            case 0: case 1: case 2: case 3: case 4: case 5: case 6: case 7:
                due(run, call, x.insert(chapter, place, word), model.insert(chapter, place, word));
                break;
            case 8: {
                int to = place + number(4);
                due(run, call + to, x.delete(chapter, place, to), model.delete(chapter, place, to));
                break;
            }
            case 9: due(run, call, x.replace(word, other), model.replace(word, other)); break;
            case 10: due(run, call, x.swap(chapter, slot), model.swap(chapter, slot)); break;
            case 11: case 12: case 13: terms(x, model, run, word, other); break;
            case 14: if (next(4) == 0) due(run, call, x.removeTerm(term), model.removeTerm(term)); break;
            case 15: due(run, call, x.setQuiet(term, slot), model.setQuiet(term, slot)); break;
            case 16: due(run, call, x.setBase(word, other), model.setBase(word, other)); break;
            case 17: due(run, call, x.setBase(word, word), model.setBase(word, word)); break;
            case 18: due(run, call, x.take(slot), model.take(slot)); break;
            case 19: due(run, call, x.restore(slot), model.restore(slot)); break;
            case 20: due(run, call, x.undo(), model.undo()); break;
            case 21: due(run, call, x.insert(0, 0, word), model.insert(0, 0, word)); break;
            case 22: due(run, call, x.append(slot + 32), model.append(slot + 32)); break;
            case 23: due(run, call, x.load(), model.load()); break;
            default: looks(x, model, run, kind - 24, new int[] {chapter, place, word, term, slot});
        }
    }

    private static void terms(TermMarks x, Model model, int run, int first, int second) {
        int length = 1 + next(4);
        int two = length > 1 ? second : number(60) == 0 ? word() : -1;
        int three = length > 2 ? word() : number(60) == 0 ? word() : -1;
        int four = length > 3 ? word() : number(60) == 0 ? word() : -1;
        String call = "(" + first + ", " + two + ", " + three + ", " + four + ")";
        due(run, "gain" + call, x.gain(first, two, three, four), model.gain(first, two, three, four));
        due(run, "addTerm" + call, x.addTerm(first, two, three, four), model.addTerm(first, two, three, four));
    }

    private static void looks(TermMarks x, Model model, int run, int kind, int[] n) {
        int what = number(10);
        String call = kind + "(" + n[0] + " " + n[1] + " " + n[2] + " " + n[3] + " " + n[4] + " " + what + ")";
        switch (kind) {
            case 0: due(run, "count" + call, x.count(what), model.count(what)); break;
            case 1: due(run, "letter" + call, x.letter(n[2], what), model.letter(n[2], what)); break;
            case 2: due(run, "base" + call, x.base(n[2]), model.base(n[2])); break;
            case 3: due(run, "place" + call, x.place(n[0], n[1], n[4]), model.place(n[0], n[1], n[4])); break;
            case 4: due(run, "term" + call, x.term(n[3], what), model.term(n[3], what)); break;
            case 5: due(run, "firstUse" + call, x.firstUse(n[3], n[0]), model.firstUse(n[3], n[0])); break;
            case 6: due(run, "mark" + call, x.mark(n[1], n[4]), model.mark(n[1], n[4])); break;
            case 7: due(run, "why" + call, x.why(n[0], n[1], n[3]), model.why(n[0], n[1], n[3])); break;
            case 8: due(run, "nested" + call, x.nested(n[3], what), model.nested(n[3], what)); break;
            default: due(run, "greediest" + call, x.greediest(), model.greediest()); break;
        }
    }

    /** A text of items, sometimes with something wrong in it. */
    private static String text() {
        StringBuilder text = new StringBuilder();
        int items = next(5);
        for (int i = 0; i < items; i++) {
            item(text);
        }
        if (next(3) == 0) {
            int at = next(text.length() + 1);
            text.insert(at, SCRAPS[next(SCRAPS.length)]);
        }
        if (next(6) == 0 && text.length() > 0) {
            text.deleteCharAt(next(text.length()));
        }
        return text.length() > 140 ? text.substring(0, 140) : text.toString();
    }

    private static void item(StringBuilder text) {
        space(text);
        switch (next(3)) {
            case 0:
                text.append("ch");
                space(text);
                text.append(next(6));
                space(text);
                text.append(':');
                words(text, next(12) == 0 ? 42 : next(12));
                break;
            case 1:
                text.append("term ");
                words(text, next(30) == 0 ? 5 : 1 + next(4));
                break;
            default:
                text.append("form ");
                words(text, 1);
                text.append('=');
                words(text, 1);
                break;
        }
        space(text);
        text.append(';');
    }

    private static void space(StringBuilder text) {
        if (next(5) == 0) {
            text.append(' ');
        }
    }

    private static void words(StringBuilder text, int count) {
        for (int i = 0; i < count; i++) {
            text.append(i == 0 ? "" : " ");
            int length = next(rareness) > 0 ? 1 : 1 + next(4);
            for (int letter = 0; letter < length; letter++) {
                text.append((char) ('a' + next(alphabet)));
            }
            space(text);
        }
    }
}
