import java.io.IOException;
import java.lang.reflect.InvocationTargetException;
import java.lang.reflect.Method;
import java.nio.file.Files;
import java.nio.file.Path;
import java.util.Set;
import java.util.TreeSet;
import java.util.function.Supplier;

/** Runs the tests of boundary cases, each under the words by which the document names the case. */
final class Edges {
    static final int LEAST_INT = Integer.MIN_VALUE, MOST_INT = Integer.MAX_VALUE;
    static final String EIGHT_SLEEPERS = "000y;111o;222w;333i;490y;581o;672w;993i";
    static final String EIGHT_DEEDS = "000k;111v;222f;333d;494k;059v;198f;499d";

    private static final Path DOCUMENT = Path.of("../shared/DOC.md");

    private final Due due = new Due();
    /** Null where it can't be read: the answers that are due do not hang on it. */
    private final String document = readDocument();
    private final Set<Integer> promises = new TreeSet<>();
    private String heading = "";

    /** One boundary case: a test of a sentence that is no longer there would test nothing that is promised. */
    void edge(int promise, String words, Runnable test) {
        heading = "promise " + promise + ", \"" + words + "\": ";
        if (document != null) {
            due.holds(heading + "stands in the document", document.contains(onOneLine(words)));
        }
        promises.add(promise);
        int before = due.asked();
        test.run();
        due.holds(heading + "has a test", due.asked() > before);
    }

    void answers(SleptWitness x, long want, String name, int... args) {
        due.is(heading + sign(name, args), call(x, name, args), want);
    }

    void holds(String what, boolean so) {
        due.holds(heading + what, so);
    }

    /** A refusal that is no FINDING: it changes nothing at all. */
    void refuses(Supplier<SleptWitness> maker, long want, String name, int... args) {
        due.refused(heading + sign(name, args), maker, y -> call(y, name, args), want);
    }

    void bad(Supplier<SleptWitness> maker, String name, int... args) {
        refuses(maker, Due.BAD, name, args);
    }

    /** A FINDING: it changes nothing but count() 8. */
    void finds(Supplier<SleptWitness> maker, int number, String name, int... args) {
        long want = name.equals("get") ? LEAST_INT : -10 - number;
        due.found(heading + sign(name, args), maker, y -> call(y, name, args), want, number);
    }

    /** Whether two objects, made by two ways, are alike in all that can be asked. */
    void alike(String what, SleptWitness x, SleptWitness y) {
        due.holds(heading + what, Due.state(x).equals(Due.state(y)));
    }

    void end(String name, int first, int last) {
        for (int promise = first; promise <= last; promise++) {
            due.holds("promise " + promise + " has a boundary case", promises.contains(promise));
        }
        due.end(name);
    }

    static long call(SleptWitness x, String name, int... args) {
        try {
            for (Method m : SleptWitness.class.getMethods()) {
                if (m.getName().equals(name) && m.getParameterCount() == args.length) {
                    return ((Number) m.invoke(x, boxed(args))).longValue();
                }
            }
        } catch (InvocationTargetException thrown) {
            throw new IllegalStateException(sign(name, args) + " threw", thrown.getCause());
        } catch (IllegalAccessException closed) {
            throw new IllegalStateException(closed);
        }
        throw new IllegalStateException("there is no " + sign(name, args));
    }

    private static Object[] boxed(int[] args) {
        Object[] all = new Object[args.length];
        for (int k = 0; k < args.length; k++) {
            all[k] = args[k];
        }
        return all;
    }

    private static String sign(String name, int... args) {
        StringBuilder sign = new StringBuilder(name).append('(');
        for (int k = 0; k < args.length; k++) {
            sign.append(k == 0 ? "" : ", ").append(args[k]);
        }
        return sign.append(')').toString();
    }

    private static String readDocument() {
        try {
            return onOneLine(Files.readString(DOCUMENT));
        } catch (IOException gone) {
            System.out.println("no " + DOCUMENT + " from here: whether the sentences stand in it is not looked at");
            return null;
        }
    }

    private static String onOneLine(String text) {
        return text.replaceAll("\\s+", " ");
    }
}
