import java.io.IOException;
import java.lang.reflect.Constructor;
import java.lang.reflect.Field;
import java.lang.reflect.Method;
import java.lang.reflect.Modifier;
import java.nio.file.Files;
import java.nio.file.Path;
import java.util.ArrayList;
import java.util.List;
import java.util.Set;
import java.util.TreeSet;
import java.util.regex.Matcher;
import java.util.regex.Pattern;

/** Holds the compiled class against the document's face and rule 1 of LANGUAGE.md. */
public final class FaceTest {
    private static final Checks CHECKS = new Checks("FaceTest");

    private static Set<String> faceOfDocument() throws IOException {
        String doc = Files.readString(Path.of("../shared/DOC.md"));
        String face = doc.substring(doc.indexOf("```java"), doc.indexOf("```", doc.indexOf("```java") + 3));
        Set<String> methods = new TreeSet<>();
        Matcher m = Pattern.compile("public (int|long) (\\w+)\\(([^)]*)\\);").matcher(face);
        while (m.find()) {
            String types = m.group(3).replaceAll("(int|long) \\w+", "$1").replace(" ", "");
            methods.add(m.group(1) + " " + m.group(2) + "(" + types + ")");
        }
        return methods;
    }

    private static String signature(Method m) {
        List<String> types = new ArrayList<>();
        for (Class<?> type : m.getParameterTypes()) {
            types.add(type.getName());
        }
        return m.getReturnType().getName() + " " + m.getName() + "(" + String.join(",", types) + ")";
    }

    private static void checkConstructor() {
        Constructor<?>[] constructors = BucketGift.class.getDeclaredConstructors();
        CHECKS.due("there is one constructor", constructors.length, 1);
        CHECKS.due("it is public and takes nothing",
            Modifier.isPublic(constructors[0].getModifiers()) && constructors[0].getParameterCount() == 0);
    }

    private static Set<String> checkFace() throws IOException {
        Class<?> c = BucketGift.class;
        CHECKS.due("the class is public and final",
            Modifier.isPublic(c.getModifiers()) && Modifier.isFinal(c.getModifiers()));
        Set<String> face = new TreeSet<>();
        Set<String> names = new TreeSet<>();
        for (Method m : c.getDeclaredMethods()) {
            if (Modifier.isPublic(m.getModifiers())) {
                face.add(signature(m));
                names.add(m.getName());
            } else {
                CHECKS.due("private is " + m, Modifier.isPrivate(m.getModifiers()));
            }
        }
        Set<String> due = faceOfDocument();
        CHECKS.due("the document has 38 methods", due.size(), 38);
        CHECKS.due("the face is the document's: " + face, face.equals(due));
        for (Field f : c.getDeclaredFields()) {
            CHECKS.due("private is " + f, Modifier.isPrivate(f.getModifiers()));
        }
        return names;
    }

    private static void checkNames(Class<?> c, Set<String> publicNames) {
        for (Method m : c.getDeclaredMethods()) {
            boolean own = c == BucketGift.class && Modifier.isPublic(m.getModifiers());
            CHECKS.due("no public method's name bears " + m, own || !publicNames.contains(m.getName()));
        }
    }

    private static void checkClassInside(Class<?> c) {
        int modifiers = c.getModifiers();
        CHECKS.due("static is " + c, Modifier.isStatic(modifiers));
        CHECKS.due("no more than package-visible is " + c,
            !Modifier.isPublic(modifiers) && !Modifier.isProtected(modifiers));
    }

    public static void main(String[] args) throws IOException {
        checkConstructor();
        Set<String> publicNames = checkFace();
        checkNames(BucketGift.class, publicNames);
        for (Class<?> c : BucketGift.class.getDeclaredClasses()) {
            checkClassInside(c);
            checkNames(c, publicNames);
        }
        CHECKS.end();
    }
}
