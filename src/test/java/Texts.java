/** Texts for tests. */
final class Texts {
    private Texts() {
    }

    /** The beginning and so many words of one letter, with spaces between them. */
    static String words(String beginning, int count, char letter) {
        StringBuilder text = new StringBuilder(beginning);
        for (int i = 0; i < count; i++) {
            text.append(i == 0 ? "" : " ").append(letter);
        }
        return text.toString();
    }

    /** So many new words of two letters, the first of which is this one, with spaces between them. */
    static String pairs(char first, int count) {
        StringBuilder text = new StringBuilder();
        for (int i = 0; i < count; i++) {
            text.append(i == 0 ? "" : " ").append(first).append((char) ('a' + i));
        }
        return text.toString();
    }

    /** A text of chapter 0 with which there are 60 words: behind the letters aa is 26, az 51, ba 52, bh 59. */
    static String allWords() {
        return "ch0:" + pairs('a', 26) + " " + pairs('b', 8) + ";";
    }
}
