import java.io.IOException;
import java.lang.reflect.Constructor;
import java.lang.reflect.Field;
import java.lang.reflect.Method;
import java.lang.reflect.Modifier;
import java.nio.file.Files;
import java.nio.file.Path;
import java.util.ArrayList;
import java.util.List;
import java.util.Set;
import java.util.TreeSet;
import java.util.regex.Matcher;
import java.util.regex.Pattern;

/** Holds the class against the document's face and those of the language's rules that can be looked up. */
public final class LanguageTest {
    private static final Checks CHECKS = new Checks("LanguageTest");

    private static Set<String> faceOfDocument() throws IOException {
        String doc = Files.readString(Path.of("../shared/DOC.md"));
        String face = doc.substring(doc.indexOf("```java"), doc.indexOf("```", doc.indexOf("```java") + 3));
        Set<String> methods = new TreeSet<>();
        Matcher m = Pattern.compile("public (int|long) (\\w+)\\(([^)]*)\\);").matcher(face);
        while (m.find()) {
            String types = m.group(3).replaceAll("(int|long) \\w+", "$1").replace(" ", "");
            methods.add(m.group(1) + " " + m.group(2) + "(" + types + ")");
        }
        return methods;
    }

    private static String signature(Method m) {
        List<String> types = new ArrayList<>();
        for (Class<?> type : m.getParameterTypes()) {
            types.add(type.getName());
        }
        return m.getReturnType().getName() + " " + m.getName() + "(" + String.join(",", types) + ")";
    }

    private static Set<String> checkFace() throws IOException {
        Class<?> c = BucketGift.class;
        CHECKS.due("the class is public and final",
            Modifier.isPublic(c.getModifiers()) && Modifier.isFinal(c.getModifiers()));
        Set<String> face = new TreeSet<>();
        Set<String> names = new TreeSet<>();
        for (Method m : c.getDeclaredMethods()) {
            if (Modifier.isPublic(m.getModifiers())) {
                face.add(signature(m));
                names.add(m.getName());
            } else {
                CHECKS.due("private is " + m, Modifier.isPrivate(m.getModifiers()));
            }
        }
        Set<String> due = faceOfDocument();
        CHECKS.due("the document has 38 methods", due.size(), 38);
        CHECKS.due("the face is the document's: " + face, face.equals(due));
        for (Field f : c.getDeclaredFields()) {
            CHECKS.due("private is " + f, Modifier.isPrivate(f.getModifiers()));
        }
        Constructor<?>[] constructors = c.getDeclaredConstructors();
        CHECKS.due("there is one constructor", constructors.length, 1);
        CHECKS.due("it is public and takes nothing",
            Modifier.isPublic(constructors[0].getModifiers()) && constructors[0].getParameterCount() == 0);
        return names;
    }

    private static void checkClass(Class<?> c, Set<String> publicNames) {
        int fields = 0;
        for (Field f : c.getDeclaredFields()) {
            boolean isStatic = Modifier.isStatic(f.getModifiers());
            fields += isStatic ? 0 : 1;
            CHECKS.due("final is static " + f, !isStatic || Modifier.isFinal(f.getModifiers()));
        }
        CHECKS.due("at most 20 fields has " + c, fields <= 20);
        for (Method m : c.getDeclaredMethods()) {
            CHECKS.due("at most 7 parameters has " + m, m.getParameterCount() <= 7);
            boolean own = c == BucketGift.class && Modifier.isPublic(m.getModifiers());
            CHECKS.due("no public method's name bears " + m, own || !publicNames.contains(m.getName()));
        }
    }

    private static String withoutCommentsAndTexts(String source) {
        return source.replaceAll("(?s)/\\*.*?\\*/", "").replaceAll("//[^\n]*", "").replaceAll("\"[^\"\n]*\"", "\"\"");
    }

    private static void checkSource() throws IOException {
        String source = Files.readString(Path.of("src/main/java/BucketGift.java"));
        String code = withoutCommentsAndTexts(source);
        String[] barred = {"throw", "throws", "try", "catch", "finally", "synchronized", "assert", "System\\.exit",
            "Random", "Thread", "System\\.(?!arraycopy)\\w+", "package", "Object", "\\w+Exact", "->", "::",
            "import (?!java\\.util\\.Arrays;)"};
        for (String word : barred) {
            String edge = Character.isLetter(word.charAt(0)) ? "\\b" : "";
            CHECKS.due("there is no " + word, !Pattern.compile(edge + word).matcher(code).find());
        }
        for (String line : code.split("\n")) {
            if (line.contains("new ")) {
                boolean isRow = line.matches(" +(private )?final [^=]+ = new [^;]+;");
                boolean isSheet = line.trim().equals("sheets[s] = new Sheet();");
                CHECKS.due("made with the object alone: " + line.trim(), isRow || isSheet);
            }
        }
        checkLengths(source.split("\n"));
    }

    /** A method ends where a brace stands as far in as its first line. */
    private static void checkLengths(String[] lines) {
        Pattern head = Pattern.compile("( {4}| {8})(\\w.*\\)) \\{");
        for (int i = 0; i < lines.length; i++) {
            Matcher m = head.matcher(lines[i]);
            if (m.matches() && !m.group(2).matches("(if|for|while|switch).*")) {
                int end = i + 1;
                while (end < lines.length && !lines[end].equals(m.group(1) + "}")) {
                    end++;
                }
                CHECKS.due("at most 60 lines has " + m.group(2), end - i + 1 <= 60);
            }
            CHECKS.due("plain signs alone has line " + (i + 1), lines[i].matches("[\\x20-\\x7e]*"));
        }
    }

    public static void main(String[] args) throws IOException {
        Set<String> publicNames = checkFace();
        checkClass(BucketGift.class, publicNames);
        Class<?>[] inside = BucketGift.class.getDeclaredClasses();
        CHECKS.due("at most 12 classes", inside.length + 1 <= 12);
        for (Class<?> c : inside) {
            int modifiers = c.getModifiers();
            CHECKS.due("static is " + c, Modifier.isStatic(modifiers));
            CHECKS.due("no more than package-visible is " + c,
                !Modifier.isPublic(modifiers) && !Modifier.isProtected(modifiers));
            checkClass(c, publicNames);
        }
        checkSource();
        CHECKS.end();
    }
}
