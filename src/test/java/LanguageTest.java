import java.io.IOException;
import java.lang.reflect.Field;
import java.lang.reflect.Method;
import java.lang.reflect.Modifier;
import java.nio.file.Files;
import java.nio.file.Path;
import java.util.Arrays;
import java.util.HashSet;
import java.util.Set;
import java.util.TreeSet;
import java.util.regex.Matcher;
import java.util.regex.Pattern;

/** The document's face, and the rules of LANGUAGE.md that can be looked at from outside. */
public final class LanguageTest {
    private static final String[] FACE = {
        "int type(int,int)", "int wipe(int)", "int undo(int)", "int fault(int)", "int sleeper(int,int)", "int deed(int,int)",
        "int law(int,int)", "int depth(int,int)", "int hears(int,int,int)", "int proof(int,int)", "int nights(int,int)",
        "int best()", "int byAll()", "int quiet(int,int,int)", "int move(int,int)", "int need(int,int)", "int feed(int,int)",
        "int told(int,int,int)", "int forget()", "int read(int)", "int never()", "int place(int)", "int ask()",
        "long feign(int,int,int)", "int court(int,int,int)", "int sheet(int,int,int)", "int lose(int)",
        "int put(int,int,int,int)", "int get(int,int,int)", "int copy(int,int,int,int,int)", "int write(int,int)",
        "int count(int)", "long digest()",
    };
    private static final String[] WORDS = {
        "throw", "throws", "try", "catch", "synchronized", "assert", "package", "protected", "transient", "volatile", "native",
        "Exception", "Error", "System.out", "System.err", "nanoTime", "currentTimeMillis", "Random", "Thread", "hashCode", "toString",
    };

    private static final Due due = new Due();

    public static void main(String[] args) throws IOException {
        face();
        constants();
        classesInside();
        source(Files.readString(Path.of("src/main/java/SleptWitness.java")));
        due.end("LanguageTest");
    }

    private static String sign(Method m) {
        StringBuilder sign = new StringBuilder(m.getReturnType() + " " + m.getName() + "(");
        for (int k = 0; k < m.getParameterCount(); k++) {
            sign.append(k == 0 ? "" : ",").append(m.getParameterTypes()[k]);
        }
        return sign.append(")").toString();
    }

    private static void face() {
        Class<?> face = SleptWitness.class;
        due.holds("public and final", face.getModifiers() == (Modifier.PUBLIC | Modifier.FINAL));
        due.holds("one constructor, public", face.getDeclaredConstructors().length == 1 && face.getConstructors().length == 1);
        Set<String> open = new TreeSet<>();
        Set<String> names = new HashSet<>();
        for (Method m : face.getDeclaredMethods()) {
            if (Modifier.isPublic(m.getModifiers())) {
                open.add(sign(m));
                names.add(m.getName());
            }
        }
        due.holds("the methods of the document: " + open, open.equals(new TreeSet<>(Arrays.asList(FACE))));
        for (Method m : face.getDeclaredMethods()) {
            if (!Modifier.isPublic(m.getModifiers())) {
                due.holds(m + " is private", Modifier.isPrivate(m.getModifiers()));
                due.holds(m + " has a name of its own", !names.contains(m.getName()));
            }
        }
    }

    private static void constants() {
        Set<String> open = new TreeSet<>();
        for (Field f : SleptWitness.class.getDeclaredFields()) {
            if (!Modifier.isPrivate(f.getModifiers())) {
                open.add(f.getName());
            }
            due.holds(f + " is final, if static", !Modifier.isStatic(f.getModifiers()) || Modifier.isFinal(f.getModifiers()));
        }
        due.holds("the constants of the document: " + open, open.equals(new TreeSet<>(Arrays.asList("NONE", "BAD", "NOT", "FULL"))));
        due.is("NONE", SleptWitness.NONE, -1);
        due.is("BAD", SleptWitness.BAD, -2);
        due.is("NOT", SleptWitness.NOT, -3);
        due.is("FULL", SleptWitness.FULL, -4);
    }

    private static void classesInside() {
        Class<?>[] inside = SleptWitness.class.getDeclaredClasses();
        due.holds("some twelve classes at most", inside.length < 12);
        due.holds("some twenty fields at most", fieldsOf(SleptWitness.class) <= 20);
        for (Class<?> c : inside) {
            due.holds(c + " is static", Modifier.isStatic(c.getModifiers()));
            due.holds(c + " is not public", !Modifier.isPublic(c.getModifiers()));
            due.holds(c + ": some twenty fields at most", fieldsOf(c) <= 20);
            for (Method m : c.getDeclaredMethods()) {
                due.holds(m + ": seven parameters at most", m.getParameterCount() <= 7);
            }
        }
    }

    private static int fieldsOf(Class<?> c) {
        int many = 0;
        for (Field f : c.getDeclaredFields()) {
            many += Modifier.isStatic(f.getModifiers()) ? 0 : 1;
        }
        return many;
    }

    private static void source(String text) {
        String code = text.replaceAll("(?s)/\\*.*?\\*/", " ").replaceAll("//[^\n]*", " ").replaceAll("\"[^\"\n]*\"", "\"\"");
        for (String word : WORDS) {
            due.holds("no " + word, !Pattern.compile("\\b" + Pattern.quote(word) + "\\b").matcher(code).find());
        }
        due.holds("no lambda, no method reference", !code.contains("->") && !code.contains("::"));
        Matcher imports = Pattern.compile("import ([^;]*);").matcher(code);
        while (imports.find()) {
            due.holds("import " + imports.group(1), imports.group(1).equals("java.util.Arrays"));
        }
    }
}
