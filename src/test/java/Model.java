import java.util.ArrayDeque;
import java.util.ArrayList;
import java.util.Collections;
import java.util.Deque;
import java.util.List;
import java.util.regex.Matcher;
import java.util.regex.Pattern;

/** The document once more, written with the Java library in the shortest way, to compare answers with. */
final class Model {
    static final int BAD = -1;
    static final int ILLEGAL = -2;
    static final int FULL = -3;
    static final int NONE = -99;

    record Term(List<Integer> words, boolean quiet) { }

    record Read(int chapter, int place, int term) { }

    record Token(int at, String text) { }

    static final class Refused extends RuntimeException {
        private static final long serialVersionUID = 1;
        final int at;

        Refused(int at) {
            this.at = at;
        }
    }

    /** A state; its lists are never changed, only replaced by others. */
    static final class State implements Cloneable {
        List<String> words = new ArrayList<>();
        List<Integer> bases = new ArrayList<>();
        List<List<Integer>> chapters = new ArrayList<>(Collections.nCopies(6, List.of()));
        List<Term> terms = new ArrayList<>();
        List<List<List<Integer>>> slots = new ArrayList<>(Collections.nCopies(2, null));

        State copy() {
            State copy = new State();
            copy.words = new ArrayList<>(words);
            copy.bases = new ArrayList<>(bases);
            copy.chapters = new ArrayList<>(chapters);
            copy.terms = new ArrayList<>(terms);
            copy.slots = new ArrayList<>(slots);
            return copy;
        }

        boolean word(int word) {
            return word >= 0 && word < words.size();
        }

        List<Integer> basesOf(List<Integer> row) {
            return row.stream().map(bases::get).toList();
        }

        boolean alike() {
            return terms.stream().map(term -> basesOf(term.words)).distinct().count() < terms.size();
        }

        int total() {
            return chapters.stream().mapToInt(List::size).sum();
        }

        boolean occurs(Term term, List<Integer> row, int place) {
            int end = place + term.words.size();
            return end <= row.size() && basesOf(row.subList(place, end)).equals(basesOf(term.words));
        }

        int occurrences(Term term, List<Integer> row) {
            int count = 0;
            for (int place = 0; place < row.size(); place++) {
                count += occurs(term, row, place) ? 1 : 0;
            }
            return count;
        }

        List<Read> readings() {
            List<Read> readings = new ArrayList<>();
            for (int chapter = 0; chapter < 6; chapter++) {
                List<Integer> row = chapters.get(chapter);
                int place = 0;
                while (place < row.size()) {
                    int length = 4;
                    int found = -1;
                    for (; length > 0 && found < 0; length--) {
                        for (int term = 0; term < terms.size(); term++) {
                            if (terms.get(term).words.size() == length && occurs(terms.get(term), row, place)) {
                                found = term;
                            }
                        }
                    }
                    if (found >= 0) {
                        readings.add(new Read(chapter, place, found));
                    }
                    place += found >= 0 ? length + 1 : 1;
                }
            }
            return readings;
        }

        List<Read> marks() {
            List<Read> marks = new ArrayList<>();
            for (Read read : readings()) {
                boolean again = marks.stream().anyMatch(m -> m.chapter == read.chapter && m.term == read.term);
                if (!again && !terms.get(read.term).quiet) {
                    marks.add(read);
                }
            }
            return marks;
        }

        boolean setBase(int word, int base) {
            boolean forms = false;
            for (int form = 0; form < words.size(); form++) {
                forms |= form != word && bases.get(form) == word;
            }
            if (base != word && (bases.get(base) != base || forms)) {
                return false;
            }
            int previous = bases.get(word);
            bases.set(word, base);
            if (alike()) {
                bases.set(word, previous);
                return false;
            }
            return true;
        }
    }

    private State now = new State();
    private final Deque<State> history = new ArrayDeque<>();
    private final StringBuilder text = new StringBuilder();

    Model() {
        for (char letter = 'a'; letter <= 'z'; letter++) {
            now.words.add(String.valueOf(letter));
            now.bases.add(letter - 'a');
        }
    }

    private void act() {
        history.addLast(now);
        if (history.size() > 5) {
            history.removeFirst();
        }
        now = now.copy();
    }

    private static boolean in(int number, int from, int to) {
        return number >= from && number <= to;
    }

    private boolean isTerm(int term) {
        return in(term, 0, now.terms.size() - 1);
    }

    /** The number of words of a chapter, 0 if there is no such chapter. */
    int length(int chapter) {
        return in(chapter, 0, 5) ? now.chapters.get(chapter).size() : 0;
    }

    int insert(int chapter, int place, int word) {
        if (!in(chapter, 0, 5) || !in(place, 0, now.chapters.get(chapter).size()) || !now.word(word)) {
            return BAD;
        }
        List<Integer> row = new ArrayList<>(now.chapters.get(chapter));
        if (row.size() == 40) {
            return FULL;
        }
        act();
        row.add(place, word);
        now.chapters.set(chapter, row);
        return row.size();
    }

    int delete(int chapter, int from, int to) {
        if (!in(chapter, 0, 5) || !in(from, 0, now.chapters.get(chapter).size() - 1)
                || !in(to, from, now.chapters.get(chapter).size() - 1)) {
            return BAD;
        }
        act();
        List<Integer> row = new ArrayList<>(now.chapters.get(chapter));
        row.subList(from, to + 1).clear();
        now.chapters.set(chapter, row);
        return row.size();
    }

    int replace(int word, int other) {
        if (!now.word(word) || !now.word(other) || word == other) {
            return BAD;
        }
        act();
        int count = 0;
        for (int chapter = 0; chapter < 6; chapter++) {
            count += Collections.frequency(now.chapters.get(chapter), word);
            now.chapters.set(chapter, now.chapters.get(chapter).stream().map(w -> w == word ? other : w).toList());
        }
        return count;
    }

    int swap(int one, int other) {
        if (!in(one, 0, 5) || !in(other, 0, 5)) {
            return BAD;
        }
        act();
        Collections.swap(now.chapters, one, other);
        return now.marks().size();
    }

    /** The term that is asked for, or null if it is out of range. */
    private Term asked(int... row) {
        int length = 4;
        while (length > 0 && row[length - 1] == -1) {
            length--;
        }
        List<Integer> words = new ArrayList<>();
        for (int i = 0; i < length; i++) {
            if (!now.word(row[i])) {
                return null;
            }
            words.add(row[i]);
        }
        return length == 0 ? null : new Term(words, false);
    }

    int addTerm(int first, int second, int third, int fourth) {
        int error = gain(first, second, third, fourth);
        if (error < 0) {
            return error;
        }
        if (now.terms.size() == 12) {
            return FULL;
        }
        act();
        now.terms.add(asked(first, second, third, fourth));
        return now.terms.size() - 1;
    }

    int removeTerm(int term) {
        if (!isTerm(term)) {
            return BAD;
        }
        act();
        now.terms.remove(term);
        return now.terms.size();
    }

    int setQuiet(int term, int quiet) {
        if (!isTerm(term) || !in(quiet, 0, 1)) {
            return BAD;
        }
        act();
        now.terms.set(term, new Term(now.terms.get(term).words, quiet == 1));
        return now.marks().size();
    }

    int setBase(int word, int base) {
        if (!now.word(word) || !now.word(base)) {
            return BAD;
        }
        if (!now.copy().setBase(word, base)) {
            return ILLEGAL;
        }
        act();
        int previous = now.bases.get(word);
        now.setBase(word, base);
        return previous;
    }

    int take(int slot) {
        if (!in(slot, 0, 1)) {
            return BAD;
        }
        act();
        now.slots.set(slot, List.copyOf(now.chapters));
        return now.total();
    }

    int restore(int slot) {
        if (!in(slot, 0, 1)) {
            return BAD;
        }
        if (now.slots.get(slot) == null) {
            return ILLEGAL;
        }
        act();
        now.chapters = new ArrayList<>(now.slots.get(slot));
        return now.total();
    }

    int undo() {
        if (history.isEmpty()) {
            return ILLEGAL;
        }
        now = history.removeLast();
        return history.size();
    }

    int append(int character) {
        if (!in(character, 1, 255)) {
            return BAD;
        }
        if (text.length() == 140) {
            return FULL;
        }
        return text.append((char) character).length();
    }

    int clearText() {
        int length = text.length();
        text.setLength(0);
        return length;
    }

    int load() {
        State before = now;
        now = now.copy();
        try {
            int items = items();
            State then = now;
            now = before;
            act();
            now = then;
            text.setLength(0);
            return items;
        } catch (Refused refused) {
            now = before;
            return -1000 - refused.at;
        }
    }

    private int items() {
        Deque<Token> tokens = new ArrayDeque<>();
        Matcher matcher = Pattern.compile("[a-z]+|[^ ]", Pattern.DOTALL).matcher(text);
        while (matcher.find()) {
            tokens.add(new Token(matcher.start(), matcher.group()));
        }
        int items = 0;
        while (!tokens.isEmpty()) {
            switch (pull(tokens, "ch|term|form").text) {
                case "ch": chapter(tokens); break;
                case "term": term(tokens); break;
                default: form(tokens); break;
            }
            items++;
        }
        return items;
    }

    private Token pull(Deque<Token> tokens, String pattern) {
        if (tokens.isEmpty()) {
            throw new Refused(text.length());
        }
        if (!tokens.peek().text.matches(pattern)) {
            throw new Refused(tokens.peek().at);
        }
        return tokens.poll();
    }

    private int word(Deque<Token> tokens) {
        Token token = pull(tokens, "[a-z]{1,8}");
        if (!now.words.contains(token.text)) {
            if (now.words.size() == 60) {
                throw new Refused(token.at);
            }
            now.bases.add(now.words.size());
            now.words.add(token.text);
        }
        return now.words.indexOf(token.text);
    }

    /** The words up to the next other token, which are at most so many. */
    private List<Integer> words(Deque<Token> tokens, int most) {
        List<Integer> words = new ArrayList<>();
        while (!tokens.isEmpty() && tokens.peek().text.matches("[a-z]+")) {
            if (words.size() == most) {
                throw new Refused(tokens.peek().at);
            }
            words.add(word(tokens));
        }
        return words;
    }

    private void chapter(Deque<Token> tokens) {
        int chapter = Integer.parseInt(pull(tokens, "[0-5]").text);
        pull(tokens, ":");
        now.chapters.set(chapter, words(tokens, 40));
        pull(tokens, ";");
    }

    private void term(Deque<Token> tokens) {
        List<Integer> words = words(tokens, 4);
        if (words.isEmpty()) {
            pull(tokens, "[a-z]+");
        }
        Token end = pull(tokens, ";");
        now.terms.add(new Term(words, false));
        if (now.alike() || now.terms.size() > 12) {
            throw new Refused(end.at);
        }
    }

    private void form(Deque<Token> tokens) {
        int word = word(tokens);
        pull(tokens, "=");
        int other = word(tokens);
        Token end = pull(tokens, ";");
        if (!now.setBase(word, now.bases.get(other))) {
            throw new Refused(end.at);
        }
    }

    int count(int what) {
        switch (what) {
            case 0: return now.words.size();
            case 1: return now.total();
            case 2: return now.terms.size();
            case 3: return (int) now.terms.stream().filter(Term::quiet).count();
            case 4: return now.marks().size();
            case 5: return now.readings().size();
            case 6: {
                int forms = 0;
                for (int word = 0; word < now.words.size(); word++) {
                    forms += now.bases.get(word) == word ? 0 : 1;
                }
                return forms;
            }
            case 7: return 2 - Collections.frequency(now.slots, null);
            case 8: return history.size();
            case 9: return text.length();
            default: return BAD;
        }
    }

    int letter(int word, int index) {
        if (!now.word(word) || index < 0) {
            return BAD;
        }
        return index < now.words.get(word).length() ? now.words.get(word).charAt(index) : NONE;
    }

    int base(int word) {
        return now.word(word) ? now.bases.get(word) : BAD;
    }

    int place(int chapter, int place, int what) {
        if (!in(chapter, 0, 5) || place < 0 || !in(what, 0, 3)) {
            return BAD;
        }
        if (place >= now.chapters.get(chapter).size()) {
            return NONE;
        }
        if (what == 0) {
            return now.chapters.get(chapter).get(place);
        }
        if (what == 3) {
            return now.marks().stream().anyMatch(m -> m.chapter == chapter && m.place == place) ? 1 : 0;
        }
        for (Read read : now.readings()) {
            int length = now.terms.get(read.term).words.size();
            if (read.chapter == chapter && in(place, read.place, read.place + length - 1)) {
                return what == 1 ? read.term : place - read.place;
            }
        }
        return NONE;
    }

    int term(int term, int what) {
        if (!isTerm(term) || !in(what, 0, 8)) {
            return BAD;
        }
        List<Integer> words = now.terms.get(term).words;
        switch (what) {
            case 0: return words.size();
            case 5: return now.terms.get(term).quiet ? 1 : 0;
            case 6: return (int) now.readings().stream().filter(r -> r.term == term).count();
            case 7: return now.chapters.stream().mapToInt(row -> now.occurrences(now.terms.get(term), row)).sum();
            case 8: return (int) now.marks().stream().filter(m -> m.term == term).count();
            default: return what <= words.size() ? words.get(what - 1) : NONE;
        }
    }

    int firstUse(int term, int chapter) {
        if (!isTerm(term) || !in(chapter, 0, 5)) {
            return BAD;
        }
        return now.readings().stream().filter(r -> r.term == term && r.chapter == chapter)
                .mapToInt(Read::place).min().orElse(NONE);
    }

    int mark(int mark, int what) {
        if (mark < 0 || !in(what, 0, 2)) {
            return BAD;
        }
        if (mark >= now.marks().size()) {
            return NONE;
        }
        Read read = now.marks().get(mark);
        return what == 0 ? read.chapter : what == 1 ? read.place : read.term;
    }

    int why(int chapter, int place, int term) {
        if (!in(chapter, 0, 5) || !in(place, 0, now.chapters.get(chapter).size() - 1) || !isTerm(term)) {
            return BAD;
        }
        if (now.marks().contains(new Read(chapter, place, term))) {
            return 0;
        }
        if (!now.occurs(now.terms.get(term), now.chapters.get(chapter), place)) {
            return 1;
        }
        for (Read read : now.readings()) {
            if (read.chapter == chapter && read.place == place && read.term != term) {
                return 2;
            }
            if (read.chapter == chapter && in(place, read.place + 1, read.place + term(read.term, 0) - 1)) {
                return 3;
            }
        }
        return now.terms.get(term).quiet ? 4 : 5;
    }

    int nested(int inner, int outer) {
        if (!isTerm(inner) || !isTerm(outer)) {
            return BAD;
        }
        return now.occurrences(now.terms.get(inner), now.terms.get(outer).words);
    }

    int gain(int first, int second, int third, int fourth) {
        Term term = asked(first, second, third, fourth);
        if (term == null) {
            return BAD;
        }
        State then = now.copy();
        then.terms.add(term);
        return then.alike() ? ILLEGAL : 100 + then.marks().size() - now.marks().size();
    }

    int greediest() {
        int best = NONE;
        int most = -1;
        for (int term = 0; term < now.terms.size(); term++) {
            State then = now.copy();
            then.terms.remove(term);
            if (then.marks().size() > most) {
                most = then.marks().size();
                best = term;
            }
        }
        return best;
    }
}
