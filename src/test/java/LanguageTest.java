import java.io.IOException;
import java.lang.reflect.Constructor;
import java.lang.reflect.Field;
import java.lang.reflect.Method;
import java.lang.reflect.Modifier;
import java.nio.file.Files;
import java.nio.file.Path;
import java.util.Set;
import java.util.TreeSet;
import java.util.regex.Matcher;
import java.util.regex.Pattern;

/** The face of the document, and the rules of LANGUAGE.md that can be seen by reflection or in the source. */
final class LanguageTest {
    private static final Path SOURCE = Path.of("src/main/java/BiteChild.java");
    private static final Path DOCUMENT = Path.of("../shared/DOC.md");
    private static final Check check = new Check();

    private LanguageTest() { }

    public static void main(String[] args) throws IOException {
        face();
        classesInside();
        source();
        sections();
        check.end();
    }

    private static String signature(Method m) {
        StringBuilder s = new StringBuilder(m.getReturnType().getName()).append(' ').append(m.getName()).append('(');
        for (Class<?> type : m.getParameterTypes()) {
            s.append(type.getName()).append(' ');
        }
        return s.append(')').toString();
    }

    /** The methods of the document's own listing: "public int of(int i, int what);" and its like. */
    private static Set<String> promised() throws IOException {
        Set<String> all = new TreeSet<>();
        Matcher line = Pattern.compile("public (int|long) ([a-z]+)\\(([^)]*)\\);").matcher(Files.readString(DOCUMENT));
        while (line.find()) {
            StringBuilder types = new StringBuilder();
            for (String parameter : line.group(3).isEmpty() ? new String[0] : line.group(3).split(", ")) {
                types.append(parameter.split(" ")[0]).append(' ');
            }
            all.add(line.group(1) + " " + line.group(2) + "(" + types + ")");
        }
        return all;
    }

    private static void face() throws IOException {
        Set<String> open = new TreeSet<>();
        Set<String> openNames = new TreeSet<>();
        for (Method m : BiteChild.class.getDeclaredMethods()) {
            if (!Modifier.isPrivate(m.getModifiers())) {
                check.holds("public: " + m, Modifier.isPublic(m.getModifiers()) && !Modifier.isStatic(m.getModifiers()));
                open.add(signature(m));
                openNames.add(m.getName());
            }
        }
        check.due("methods of the document", promised().size(), 33);
        check.holds("the face is the document's: " + open, open.equals(promised()));
        privateNames(BiteChild.class, openNames);
        for (Class<?> inside : BiteChild.class.getDeclaredClasses()) {
            privateNames(inside, openNames);
        }
        for (Field f : BiteChild.class.getDeclaredFields()) {
            boolean told = Set.of("NONE", "BAD", "NO", "FULL").contains(f.getName());
            check.holds("field " + f, told == !Modifier.isPrivate(f.getModifiers()));
        }
        Constructor<?>[] made = BiteChild.class.getDeclaredConstructors();
        check.holds("one public constructor", made.length == 1 && Modifier.isPublic(made[0].getModifiers())
            && made[0].getParameterCount() == 0);
        check.holds("a final class", Modifier.isFinal(BiteChild.class.getModifiers()));
    }

    private static void privateNames(Class<?> of, Set<String> openNames) {
        for (Method m : of.getDeclaredMethods()) {
            check.holds("seven parameters at most: " + m, m.getParameterCount() <= 7);
            if (Modifier.isPrivate(m.getModifiers())) {
                check.holds("bears the name of a public one: " + m, !openNames.contains(m.getName()));
            }
        }
    }

    private static void classesInside() {
        Class<?>[] inside = BiteChild.class.getDeclaredClasses();
        check.holds("twelve classes at most", inside.length < 12);
        fieldsOf(BiteChild.class);
        for (Class<?> c : inside) {
            check.holds("private and static: " + c, Modifier.isStatic(c.getModifiers()) && Modifier.isPrivate(c.getModifiers()));
            fieldsOf(c);
        }
    }

    private static void fieldsOf(Class<?> c) {
        int own = 0;
        for (Field f : c.getDeclaredFields()) {
            if (Modifier.isStatic(f.getModifiers())) {
                check.holds("static fields are final: " + f, Modifier.isFinal(f.getModifiers()));
            } else {
                own++;
            }
        }
        check.holds("twenty fields at most: " + c, own <= 20);
    }

    private static void source() throws IOException {
        String all = Files.readString(SOURCE);
        check.holds("plain signs alone", all.chars().allMatch(c -> c == '\n' || (c >= 32 && c < 127)));
        String code = all.replaceAll("(?s)/\\*.*?\\*/", " ").replaceAll("//[^\n]*", " ").replaceAll("\"[^\"\n]*\"", "\"\"");
        String[] banned = {"throw", "throws", "try", "catch", "synchronized", "assert", "import", "package", "protected",
            "float", "double", "Object", "equals", "hashCode", "toString", "random", "currentTimeMillis", "nanoTime"};
        for (String word : banned) {
            check.holds("no " + word, !Pattern.compile("\\b" + word + "\\b").matcher(code).find());
        }
        check.holds("no lambda, no method reference", !code.contains("->") && !code.contains("::"));
        check.holds("no text joined by +", !code.contains("\" +") && !code.contains("+ \""));
        int lines = 0;
        for (String line : code.split("\n")) {
            lines = line.matches(" {4}(?: {4})?\\}") ? 0 : lines + 1;
            check.holds("a method of some sixty lines at most", lines <= 70);
        }
    }

    /** "Ahead of the calls `a`, `b` the interface says: ---- x.": so it stands in the source, in that order. */
    private static void sections() throws IOException {
        String source = Files.readString(SOURCE);
        Matcher section = Pattern.compile("Ahead of the calls ([^\n]*) the interface says: (---- [^.\n]*)\\.")
            .matcher(Files.readString(DOCUMENT));
        int at = 0;
        int found = 0;
        while (section.find()) {
            at = source.indexOf("// " + section.group(2) + "\n", at);
            check.holds("says " + section.group(2), at >= 0);
            for (String call : section.group(1).replace("`", "").split(", ")) {
                int next = Math.max(source.indexOf("public int " + call + "(", at), source.indexOf("public long " + call + "(", at));
                int heading = source.indexOf("// ----", at + 1);
                check.holds(call + " stands behind " + section.group(2), next > 0 && (heading > next || heading < 0));
                at = Math.max(at, next);
            }
            found++;
        }
        check.due("sections of the interface", found, 5);
    }
}
