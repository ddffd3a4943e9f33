import java.io.IOException;
import java.lang.reflect.Constructor;
import java.lang.reflect.Field;
import java.lang.reflect.Method;
import java.lang.reflect.Modifier;
import java.nio.file.Files;
import java.nio.file.Path;
import java.util.ArrayList;
import java.util.Collections;
import java.util.List;
import java.util.regex.Matcher;
import java.util.regex.Pattern;

/** The public face, the rules of LANGUAGE.md that the source shows, and promise 1. */
public final class FaceTest {
    private static final Check CHECK = new Check();

    private static final String FACE = "append/1 addTerm/4 base/1 clearText/0 count/1 delete/3 firstUse/2 gain/4"
            + " greediest/0 insert/3 letter/2 load/0 mark/2 nested/2 place/3 removeTerm/1 replace/2 restore/1"
            + " setBase/2 setQuiet/2 swap/2 take/1 term/2 undo/0 why/3";

    private static final String[] FORBIDDEN = {
        "throw", "throws", "try", "catch", "synchronized", "assert", "import", "package", "Exact", "->", "::",
        "Math.random", "System.out", "System.currentTimeMillis", "System.nanoTime", "equals", "hashCode", "toString"};

    public static void main(String[] args) throws IOException {
        constants();
        face();
        sizes();
        source();
        methodLengths();
        newObject();
        CHECK.end();
    }

    private static void constants() {
        CHECK.due("INVALID_ARGUMENT", TermMarks.INVALID_ARGUMENT, -1);
        CHECK.due("ILLEGAL_STATE", TermMarks.ILLEGAL_STATE, -2);
        CHECK.due("CAPACITY_EXCEEDED", TermMarks.CAPACITY_EXCEEDED, -3);
        CHECK.due("NONE", TermMarks.NONE, -99);
    }

    private static void face() {
        CHECK.due("the class is final", Modifier.isFinal(TermMarks.class.getModifiers()) ? 1 : 0, 1);
        Constructor<?>[] constructors = TermMarks.class.getDeclaredConstructors();
        CHECK.due("constructors", constructors.length, 1);
        CHECK.due("public constructors", TermMarks.class.getConstructors().length, 1);
        List<String> open = new ArrayList<>();
        List<String> hidden = new ArrayList<>();
        for (Method method : TermMarks.class.getDeclaredMethods()) {
            if (Modifier.isPublic(method.getModifiers())) {
                CHECK.due(method + " answers an int", method.getReturnType() == int.class ? 1 : 0, 1);
                open.add(method.getName() + "/" + method.getParameterCount());
            } else {
                CHECK.due(method + " is private", Modifier.isPrivate(method.getModifiers()) ? 1 : 0, 1);
                hidden.add(method.getName());
            }
        }
        List<String> due = new ArrayList<>(List.of(FACE.split(" ")));
        Collections.sort(due);
        Collections.sort(open);
        CHECK.same("public methods", open.toString(), due.toString());
        for (String name : hidden) {
            CHECK.due("the private name " + name + " is free", (" " + FACE).contains(" " + name + "/") ? 0 : 1, 1);
        }
        fields();
    }

    private static void fields() {
        for (Field field : TermMarks.class.getDeclaredFields()) {
            boolean constant = List.of("INVALID_ARGUMENT", "ILLEGAL_STATE", "CAPACITY_EXCEEDED", "NONE")
                    .contains(field.getName());
            int modifiers = field.getModifiers();
            CHECK.due(field + " is as open as it should be",
                    Modifier.isPublic(modifiers) == constant && Modifier.isPrivate(modifiers) != constant ? 1 : 0, 1);
        }
        fixedStatics(TermMarks.class);
        for (Class<?> inner : TermMarks.class.getDeclaredClasses()) {
            CHECK.due(inner + " is static", Modifier.isStatic(inner.getModifiers()) ? 1 : 0, 1);
            fixedStatics(inner);
        }
    }

    private static void fixedStatics(Class<?> type) {
        for (Field field : type.getDeclaredFields()) {
            if (Modifier.isStatic(field.getModifiers())) {
                CHECK.due(field + " is final", Modifier.isFinal(field.getModifiers()) ? 1 : 0, 1);
            }
        }
    }

    /** The numbers of rule 11, and classes that are neither local nor anonymous. */
    private static void sizes() {
        Class<?>[] classes = TermMarks.class.getNestMembers();
        CHECK.due("classes are at most 12", classes.length <= 12 ? 1 : 0, 1);
        for (Class<?> type : classes) {
            CHECK.due(type + " is a member", type == TermMarks.class || type.isMemberClass() ? 1 : 0, 1);
            int fields = 0;
            for (Field field : type.getDeclaredFields()) {
                fields += Modifier.isStatic(field.getModifiers()) ? 0 : 1;
            }
            CHECK.due(type + " has at most 20 fields", fields <= 20 ? 1 : 0, 1);
            for (Method method : type.getDeclaredMethods()) {
                CHECK.due(method + " takes at most seven parameters", method.getParameterCount() <= 7 ? 1 : 0, 1);
            }
        }
    }

    private static void source() throws IOException {
        String source = Files.readString(Path.of("src/main/java/TermMarks.java"));
        String code = source.replaceAll("(?s)/\\*.*?\\*/", " ").replaceAll("//[^\n]*", " ");
        for (String word : FORBIDDEN) {
            String bound = Character.isLetter(word.charAt(0)) ? "\\b" : "";
            Matcher matcher = Pattern.compile(bound + Pattern.quote(word) + bound).matcher(code);
            CHECK.due("the source has " + word, matcher.find() ? 1 : 0, 0);
        }
        for (int i = 0; i < source.length(); i++) {
            if (source.charAt(i) > 126) {
                CHECK.due("the sign at " + i + " of the source", source.charAt(i), 126);
            }
        }
    }

    /** Rule 11: a method has at most some sixty lines. A method ends with a brace as far in as its beginning. */
    private static void methodLengths() throws IOException {
        List<String> lines = Files.readAllLines(Path.of("src/main/java/TermMarks.java"));
        Pattern head = Pattern.compile("( {4}| {8})\\S.*\\) \\{");
        int methods = 0;
        for (int from = 0; from < lines.size(); from++) {
            Matcher begins = head.matcher(lines.get(from));
            if (!begins.matches()) {
                continue;
            }
            methods++;
            int to = from;
            while (to < lines.size() && !lines.get(to).equals(begins.group(1) + "}")) {
                to++;
            }
            CHECK.due("the method has at most 60 lines:" + lines.get(from), to - from < 60 ? 1 : 0, 1);
        }
        CHECK.due("the methods are found", methods > 80 ? 1 : 0, 1);
    }

    private static void newObject() {
        TermMarks x = new TermMarks();
        int[] counts = {26, 0, 0, 0, 0, 0, 0, 0, 0, 0};
        for (int what = 0; what < counts.length; what++) {
            CHECK.due("count(" + what + ") of a new object", x.count(what), counts[what]);
        }
        for (int word = 0; word < 26; word++) {
            CHECK.due("letter(" + word + ", 0) of a new object", x.letter(word, 0), 'a' + word);
            CHECK.due("letter(" + word + ", 1) of a new object", x.letter(word, 1), TermMarks.NONE);
            CHECK.due("base(" + word + ") of a new object", x.base(word), word);
        }
        CHECK.due("letter(26, 0) of a new object", x.letter(26, 0), TermMarks.INVALID_ARGUMENT);
        for (int chapter = 0; chapter < 6; chapter++) {
            CHECK.due("place(" + chapter + ", 0, 0) of a new object", x.place(chapter, 0, 0), TermMarks.NONE);
        }
        CHECK.due("place(6, 0, 0) of a new object", x.place(6, 0, 0), TermMarks.INVALID_ARGUMENT);
        CHECK.due("term(0, 0) of a new object", x.term(0, 0), TermMarks.INVALID_ARGUMENT);
        CHECK.due("mark(0, 0) of a new object", x.mark(0, 0), TermMarks.NONE);
        CHECK.due("greediest() of a new object", x.greediest(), TermMarks.NONE);
        CHECK.due("restore(0) of a new object", x.restore(0), TermMarks.ILLEGAL_STATE);
        CHECK.due("restore(1) of a new object", x.restore(1), TermMarks.ILLEGAL_STATE);
        CHECK.due("undo() of a new object", x.undo(), TermMarks.ILLEGAL_STATE);
        CHECK.due("clearText() of a new object", x.clearText(), 0);
        TermMarks other = new TermMarks();
        x.insert(0, 0, 0);
        Check.load(x, "ch1:ab cd;term ab;");
        CHECK.same("an object beside another one", Check.whole(other), Check.whole(new TermMarks()));
    }
}
