import java.util.function.Supplier;
import java.util.function.ToLongFunction;

/** Counts the answers that are not as due; what all tests of the project share. */
final class Due {
    static final int BAD = SleptWitness.BAD, NONE = SleptWitness.NONE, NOT = SleptWitness.NOT, FULL = SleptWitness.FULL;
    static final long LONG_BAD = Long.MIN_VALUE + 2;
    static final int NULL = -11, INDEX = -12, CAST = -13, STORE = -14, SIZE = -15;
    /** Numbers that no act takes but as a seed or an item. */
    static final int[] WILD = {Integer.MIN_VALUE, -1000, -2, 1000, Integer.MAX_VALUE};

    private int asked;
    private int wrong;

    static void type(SleptWitness x, int text, String bytes) {
        for (int i = 0; i < bytes.length(); i++) {
            x.type(text, bytes.charAt(i));
        }
    }

    static SleptWitness court(String sleepers, String deeds) {
        SleptWitness x = new SleptWitness();
        type(x, 0, sleepers);
        type(x, 1, deeds);
        return x;
    }

    void is(String call, long got, long want) {
        asked++;
        if (got != want) {
            wrong++;
            System.out.println(call + " answered " + got + ", due is " + want);
        }
    }

    void holds(String what, boolean so) {
        asked++;
        if (!so) {
            wrong++;
            System.out.println("does not hold: " + what);
        }
    }

    /** A refusal changes nothing, not the latest FINDING either. */
    void refused(String call, Supplier<SleptWitness> maker, ToLongFunction<SleptWitness> act, long want) {
        SleptWitness x = maker.get();
        String before = state(x);
        int finding = x.count(8);
        is(call, act.applyAsLong(x), want);
        is(call + ", then count(8)", x.count(8), finding);
        holds(call + " changes nothing", before.equals(state(x)));
    }

    /** A FINDING changes nothing but count() 8. */
    void found(String call, Supplier<SleptWitness> maker, ToLongFunction<SleptWitness> act, long want, int number) {
        SleptWitness x = maker.get();
        String before = state(x);
        // Another FINDING first, so that the one due can be told from it.
        if (number != 5) {
            x.sheet(0, 0, -1);
        } else {
            x.get(0, 0, -1);
        }
        is(call, act.applyAsLong(x), want);
        is(call + ", then count(8)", x.count(8), number);
        holds(call + " changes nothing", before.equals(state(x)));
    }

    /** What can be asked of the state, but for count() 8, which asking for items changes. */
    static String state(SleptWitness x) {
        StringBuilder all = new StringBuilder();
        all.append(x.digest());
        for (int what = 0; what < 3; what++) {
            int v = x.law(what, 1);
            x.law(what, v);
            all.append(" law ").append(v);
        }
        for (int s = 0; s < 4; s++) {
            all.append(" sheet");
            for (int form = 0; form < 3; form++) {
                addItems(x, s, form, all);
            }
        }
        return all.toString();
    }

    /** The items of a SHEET as of a FORM, and the FINDING at which they end. */
    private static void addItems(SleptWitness x, int s, int form, StringBuilder all) {
        for (int i = 0; i <= 60; i++) {
            x.sheet(0, 0, -1);
            int item = x.get(s, form, i);
            if (x.count(8) != 5) {
                all.append(" end ").append(x.count(8));
                return;
            }
            all.append(' ').append(item);
        }
    }

    int asked() {
        return asked;
    }

    void end(String name) {
        System.out.println(name + ": " + asked + " asked, " + wrong + " wrong");
        if (wrong != 0) {
            System.exit(1);
        }
    }
}
