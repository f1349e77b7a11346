import java.util.function.Supplier;

/** Promises 1 to 8: a new object, the texts, SLEEPERS, DEEDS, the law. */
public final class TextsTest {
    private static final String EIGHT_SLEEPERS = "000y;111o;222w;333i;490y;581o;672w;993i";
    private static final String EIGHT_DEEDS = "000k;111v;222f;333d;494k;059v;198f;499d";

    private static final Due due = new Due();

    public static void main(String[] args) {
        newObject();
        type();
        wipe();
        undo();
        faultOfSleepers();
        faultOfDeeds();
        faulty();
        sleeper();
        deed();
        law();
        due.end("TextsTest");
    }

    private static SleptWitness two() {
        return Due.court("300y;412o", "033k;479d");
    }

    private static void newObject() {
        SleptWitness x = new SleptWitness();
        for (int what = 0; what <= 8; what++) {
            due.is("new: count(" + what + ")", x.count(what), 0);
        }
        due.is("new: fault(0)", x.fault(0), Due.NONE);
        due.is("new: fault(1)", x.fault(1), Due.NONE);
        due.is("new: sleeper(0, 0)", x.sleeper(0, 0), Due.BAD);
        due.is("new: deed(0, 0)", x.deed(0, 0), Due.BAD);
        due.is("new: LEAST", x.law(0, 1), 1);
        due.is("new: SINCE", x.law(1, 2), 2);
        due.is("new: PROOF", x.law(2, 2), 2);
        for (int s = 0; s < 4; s++) {
            due.is("new: lose(" + s + ")", x.lose(s), Due.NULL);
        }
        SleptWitness other = new SleptWitness();
        other.type(0, '3');
        due.is("objects are apart", new SleptWitness().count(2), 0);
    }

    private static void type() {
        SleptWitness x = new SleptWitness();
        for (int n = 1; n <= 39; n++) {
            due.is("type(0, 0), the " + n, x.type(0, n % 2 == 0 ? 0 : 255), n);
        }
        due.is("type(1, 48) beside a full text", x.type(1, 48), 1);
        due.is("count(2)", x.count(2), 39);
        due.is("count(3)", x.count(3), 1);
        Supplier<SleptWitness> full = () -> Due.court(EIGHT_SLEEPERS, EIGHT_DEEDS);
        due.refused("type(0, 59), full", full, y -> y.type(0, 59), Due.FULL);
        due.refused("type(1, 59), full", full, y -> y.type(1, 59), Due.FULL);
        due.refused("type(0, 256), full: BAD is ahead", full, y -> y.type(0, 256), Due.BAD);
        due.refused("type(0, -1)", TextsTest::two, y -> y.type(0, -1), Due.BAD);
        due.refused("type(0, 256)", TextsTest::two, y -> y.type(0, 256), Due.BAD);
        due.refused("type(-1, 48)", TextsTest::two, y -> y.type(-1, 48), Due.BAD);
        due.refused("type(2, 48)", TextsTest::two, y -> y.type(2, 48), Due.BAD);
        for (int wild : Due.WILD) {
            due.refused("type(wild, 48)", TextsTest::two, y -> y.type(wild, 48), Due.BAD);
            due.refused("type(1, wild)", TextsTest::two, y -> y.type(1, wild), Due.BAD);
        }
    }

    private static void wipe() {
        SleptWitness x = two();
        due.is("wipe(1)", x.wipe(1), 9);
        due.is("wipe(1) again", x.wipe(1), 0);
        due.is("DEEDS after wipe(1)", x.count(1), 0);
        due.is("SLEEPERS after wipe(1)", x.count(0), 2);
        due.is("wipe(0)", x.wipe(0), 9);
        due.is("SLEEPERS after wipe(0)", x.count(0), 0);
        due.is("type after wipe", x.type(0, '3'), 1);
        due.refused("wipe(-1)", TextsTest::two, y -> y.wipe(-1), Due.BAD);
        due.refused("wipe(2)", TextsTest::two, y -> y.wipe(2), Due.BAD);
    }

    private static void undo() {
        SleptWitness x = two();
        due.is("undo(0)", x.undo(0), 8);
        due.is("SLEEPERS of a text that is not ended", x.count(0), 0);
        for (int left = 7; left >= 4; left--) {
            due.is("undo(0)", x.undo(0), left);
        }
        due.is("SLEEPERS of what is left", x.count(0), 1);
        due.is("DEEDS beside", x.count(1), 2);
        due.is("type(0, ';')", x.type(0, ';'), 5);
        due.refused("undo(0), empty", SleptWitness::new, y -> y.undo(0), Due.NOT);
        due.refused("undo(1), empty", () -> Due.court("300y", ""), y -> y.undo(1), Due.NOT);
        due.refused("undo(-1)", TextsTest::two, y -> y.undo(-1), Due.BAD);
        due.refused("undo(2)", SleptWitness::new, y -> y.undo(2), Due.BAD);
    }

    private static void fault(int text, String bytes, int want) {
        SleptWitness x = new SleptWitness();
        Due.type(x, text, bytes);
        due.is("fault(" + text + ") of \"" + bytes + "\"", x.fault(text), want);
        due.is("how many of \"" + bytes + "\"", x.count(text), want == Due.NONE ? (bytes.length() + 1) / 5 : 0);
        due.is("bytes of \"" + bytes + "\"", x.count(2 + text), bytes.length());
    }

    private static void faultOfSleepers() {
        fault(0, "", Due.NONE);
        fault(0, "9", 1);
        fault(0, "99", 2);
        fault(0, "993", 3);
        fault(0, "993i", Due.NONE);
        fault(0, "000y", Due.NONE);
        fault(0, "120o", Due.NONE);
        fault(0, "120w", Due.NONE);
        fault(0, "993i;", 5);
        fault(0, "993i;0", 6);
        fault(0, "993i;000y", Due.NONE);
        fault(0, ";", 0);
        fault(0, "y", 0);
        fault(0, "/", 0);
        fault(0, ":", 0);
        fault(0, "9/", 1);
        fault(0, "9:", 1);
        fault(0, "994", 2);
        fault(0, "99/", 2);
        fault(0, "993x", 3);
        fault(0, "993k", 3);
        fault(0, "993;", 3);
        fault(0, "993Y", 3);
        fault(0, "993i0", 4);
        fault(0, "993ii", 4);
        fault(0, "993i;;", 5);
        fault(0, "000y;9940;", 7);
        fault(0, "\u00ff", 0);
        fault(0, "\u0000", 0);
        fault(0, "993\u00f9", 3);
        fault(0, EIGHT_SLEEPERS, Due.NONE);
        fault(0, EIGHT_SLEEPERS.substring(0, 35), 35);
        fault(0, EIGHT_SLEEPERS.substring(0, 38) + "k", 38);
        SleptWitness x = two();
        due.is("fault(-1)", x.fault(-1), Due.BAD);
        due.is("fault(2)", x.fault(2), Due.BAD);
    }

    private static void faultOfDeeds() {
        fault(1, "499k", Due.NONE);
        fault(1, "000v", Due.NONE);
        fault(1, "000f", Due.NONE);
        fault(1, "000d", Due.NONE);
        fault(1, "5", 0);
        fault(1, "/", 0);
        fault(1, "4:", 1);
        fault(1, "49:", 2);
        fault(1, "499y", 3);
        fault(1, "499", 3);
        fault(1, "499kk", 4);
        fault(1, "499k;", 5);
        fault(1, "499k;5", 5);
        fault(1, "499k;499d", Due.NONE);
        fault(1, EIGHT_DEEDS, Due.NONE);
    }

    private static void faulty() {
        SleptWitness x = two();
        x.type(1, ';');
        due.is("DEEDS with a FAULT", x.count(1), 0);
        due.is("deed(0, 0) with a FAULT", x.deed(0, 0), Due.BAD);
        due.is("SLEEPERS beside a FAULT", x.count(0), 2);
        x.undo(1);
        due.is("DEEDS once more", x.count(1), 2);
        x.type(0, 'z');
        due.is("sleeper(0, 0) with a FAULT", x.sleeper(0, 0), Due.BAD);
        due.is("best() with a FAULT", x.best(), Due.NONE);
        due.is("proof(0, 0) with a FAULT in SLEEPERS", x.proof(0, 0), 0);
    }

    private static void sleeper() {
        SleptWitness x = Due.court(EIGHT_SLEEPERS, "");
        for (int s = 0; s < 8; s++) {
            for (int what = 0; what < 3; what++) {
                due.is("sleeper(" + s + ", " + what + ")", x.sleeper(s, what), EIGHT_SLEEPERS.charAt(5 * s + what) - '0');
            }
            due.is("sleeper(" + s + ", 3)", x.sleeper(s, 3), s % 4);
        }
        due.is("sleeper(8, 0)", x.sleeper(8, 0), Due.BAD);
        due.is("sleeper(-1, 0)", x.sleeper(-1, 0), Due.BAD);
        due.is("sleeper(0, -1)", x.sleeper(0, -1), Due.BAD);
        due.is("sleeper(0, 4)", x.sleeper(0, 4), Due.BAD);
        due.is("sleeper(2, 0) of two", two().sleeper(2, 0), Due.BAD);
        for (int wild : Due.WILD) {
            due.is("sleeper(wild, 0)", x.sleeper(wild, 0), Due.BAD);
            due.is("sleeper(0, wild)", x.sleeper(0, wild), Due.BAD);
        }
    }

    private static void deed() {
        SleptWitness x = Due.court("", EIGHT_DEEDS);
        for (int d = 0; d < 8; d++) {
            due.is("deed(" + d + ", 0)", x.deed(d, 0), Integer.parseInt(EIGHT_DEEDS.substring(5 * d, 5 * d + 2)));
            due.is("deed(" + d + ", 1)", x.deed(d, 1), EIGHT_DEEDS.charAt(5 * d + 2) - '0');
            due.is("deed(" + d + ", 2)", x.deed(d, 2), d % 4);
        }
        due.is("deed(8, 0)", x.deed(8, 0), Due.BAD);
        due.is("deed(-1, 0)", x.deed(-1, 0), Due.BAD);
        due.is("deed(0, -1)", x.deed(0, -1), Due.BAD);
        due.is("deed(0, 3)", x.deed(0, 3), Due.BAD);
        for (int wild : Due.WILD) {
            due.is("deed(wild, 0)", x.deed(wild, 0), Due.BAD);
            due.is("deed(0, wild)", x.deed(0, wild), Due.BAD);
        }
    }

    private static void law() {
        SleptWitness x = new SleptWitness();
        int[] was = {1, 2, 2};
        int[] low = {0, 0, 1};
        int[] high = {9, 9, 8};
        for (int what = 0; what < 3; what++) {
            int before = was[what];
            for (int v = high[what]; v >= low[what]; v--) {
                due.is("law(" + what + ", " + v + ")", x.law(what, v), before);
                before = v;
            }
            int w = what;
            int below = low[what] - 1;
            int above = high[what] + 1;
            due.refused("law(" + w + ", below)", TextsTest::two, y -> y.law(w, below), Due.BAD);
            due.refused("law(" + w + ", above)", TextsTest::two, y -> y.law(w, above), Due.BAD);
            due.is("law(" + what + ") refused", x.law(what, above), Due.BAD);
            due.is("law(" + what + ") after a refusal", x.law(what, high[what]), low[what]);
            for (int wild : Due.WILD) {
                due.refused("law(" + w + ", wild)", TextsTest::two, y -> y.law(w, wild), Due.BAD);
                due.refused("law(wild, 1)", TextsTest::two, y -> y.law(wild, 1), Due.BAD);
            }
        }
        due.refused("law(-1, 1)", TextsTest::two, y -> y.law(-1, 1), Due.BAD);
        due.refused("law(3, 1)", TextsTest::two, y -> y.law(3, 1), Due.BAD);
    }
}
