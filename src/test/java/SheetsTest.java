/** Promises 27 to 34: SHEETS, counts, the digest. */
public final class SheetsTest {
    private static final int LEAST_INT = Integer.MIN_VALUE;
    private static final Due due = new Due();

    public static void main(String[] args) {
        sheet();
        lose();
        put();
        get();
        copy();
        copyWrong();
        write();
        count();
        digest();
        due.end("SheetsTest");
    }

    /** SHEET 0 has 3 bytes, 1 has 4 shorts, 2 has 5 ints, 3 is LOST. */
    private static SleptWitness three() {
        SleptWitness x = Due.court("000w;300y", "000k;010d");
        for (int s = 0; s < 3; s++) {
            x.sheet(s, s, 3 + s);
            for (int i = 0; i < 3 + s; i++) {
                x.put(s, s, i, 10 * s + i + 1);
            }
        }
        return x;
    }

    private static void row(String what, SleptWitness x, int s, int form, int... want) {
        for (int i = 0; i < want.length; i++) {
            due.is(what + ": item " + i, x.get(s, form, i), want[i]);
        }
        due.is(what + ": no more", x.get(s, form, want.length), LEAST_INT);
        due.is(what + ": no more is INDEX", x.count(8), 2);
    }

    private static void sheet() {
        SleptWitness x = new SleptWitness();
        for (int s = 0; s < 4; s++) {
            for (int form = 0; form < 3; form++) {
                due.is("sheet(" + s + ", " + form + ", 60)", x.sheet(s, form, 60), 60);
                due.is("its last item", x.get(s, form, 59), 0);
            }
        }
        due.is("sheet(0, 0, 0)", x.sheet(0, 0, 0), 0);
        row("a SHEET of none", x, 0, 0);
        SleptWitness y = three();
        due.is("sheet(2, 2, 5) anew", y.sheet(2, 2, 5), 5);
        row("a new row", y, 2, 2, 0, 0, 0, 0, 0);
        row("the one beside", y, 1, 1, 11, 12, 13, 14);
        int[][] wrong = {{-1, 0, 1}, {4, 0, 1}, {0, -1, 1}, {0, 3, 1}, {0, 0, 61}, {4, 0, -1}, {0, 3, -1},
            {LEAST_INT, 0, 1}, {0, Integer.MAX_VALUE, 1}, {0, 0, Integer.MAX_VALUE}};
        for (int[] w : wrong) {
            due.refused("sheet(" + w[0] + ", " + w[1] + ", " + w[2] + ")", SheetsTest::three, z -> z.sheet(w[0], w[1], w[2]), Due.BAD);
        }
        due.found("sheet(0, 0, -1)", SheetsTest::three, z -> z.sheet(0, 0, -1), Due.SIZE, 5);
        due.found("sheet(3, 2, least)", SheetsTest::three, z -> z.sheet(3, 2, LEAST_INT), Due.SIZE, 5);
    }

    private static void lose() {
        SleptWitness x = three();
        due.is("lose(2)", x.lose(2), 5);
        due.is("get of it", x.get(2, 2, 0), LEAST_INT);
        due.is("count(8)", x.count(8), 1);
        due.is("sheet(2, 2, 2)", x.sheet(2, 2, 2), 2);
        row("once more", x, 2, 2, 0, 0);
        row("the one beside", x, 1, 1, 11, 12, 13, 14);
        due.found("lose(3), LOST", SheetsTest::three, y -> y.lose(3), Due.NULL, 1);
        int[] wrong = {-1, 4, LEAST_INT, Integer.MAX_VALUE};
        for (int w : wrong) {
            due.refused("lose(" + w + ")", SheetsTest::three, y -> y.lose(w), Due.BAD);
        }
    }

    private static void put() {
        SleptWitness x = three();
        due.is("put(0, 0, 0, 128)", x.put(0, 0, 0, 128), 1);
        due.is("put(0, 0, 1, 256 + 7)", x.put(0, 0, 1, 256 + 7), 1);
        due.is("put(0, 0, 2, -1)", x.put(0, 0, 2, -1), 1);
        row("bytes", x, 0, 0, -128, 7, -1);
        x.put(1, 1, 0, 32768);
        x.put(1, 1, 1, 65536 + 9);
        x.put(1, 1, 2, -32769);
        x.put(1, 1, 3, 128);
        row("shorts", x, 1, 1, -32768, 9, 32767, 128);
        x.put(2, 2, 0, Integer.MAX_VALUE);
        x.put(2, 2, 1, LEAST_INT);
        x.put(2, 2, 4, 65536);
        row("ints", x, 2, 2, Integer.MAX_VALUE, LEAST_INT, 23, 24, 65536);
        int[][] wrong = {{-1, 0}, {4, 0}, {0, -1}, {0, 3}, {3, 3}, {LEAST_INT, 0}, {0, Integer.MAX_VALUE}};
        for (int[] w : wrong) {
            due.refused("put(" + w[0] + ", " + w[1] + ", 0, 9)", SheetsTest::three, y -> y.put(w[0], w[1], 0, 9), Due.BAD);
        }
        due.found("put(3, 0, 99, 9): NULL is ahead", SheetsTest::three, y -> y.put(3, 0, 99, 9), Due.NULL, 1);
        due.found("put(0, 1, 99, 9): CAST is ahead", SheetsTest::three, y -> y.put(0, 1, 99, 9), Due.CAST, 3);
        due.found("put(1, 2, 0, 9)", SheetsTest::three, y -> y.put(1, 2, 0, 9), Due.CAST, 3);
        int[] indices = {-1, 3, 60, LEAST_INT, Integer.MAX_VALUE};
        for (int i : indices) {
            due.found("put(0, 0, " + i + ", 9)", SheetsTest::three, y -> y.put(0, 0, i, 9), Due.INDEX, 2);
        }
    }

    private static void get() {
        row("three() bytes", three(), 0, 0, 1, 2, 3);
        row("three() shorts", three(), 1, 1, 11, 12, 13, 14);
        row("three() ints", three(), 2, 2, 21, 22, 23, 24, 25);
        int[][] wrong = {{-1, 0}, {4, 0}, {0, -1}, {0, 3}, {3, 3}, {LEAST_INT, 0}, {0, Integer.MAX_VALUE}};
        for (int[] w : wrong) {
            due.refused("get(" + w[0] + ", " + w[1] + ", 0)", SheetsTest::three, y -> y.get(w[0], w[1], 0), LEAST_INT);
        }
        due.found("get(3, 0, 99)", SheetsTest::three, y -> y.get(3, 0, 99), LEAST_INT, 1);
        due.found("get(0, 2, 99)", SheetsTest::three, y -> y.get(0, 2, 99), LEAST_INT, 3);
        due.found("get(0, 0, 3)", SheetsTest::three, y -> y.get(0, 0, 3), LEAST_INT, 2);
        due.found("get(0, 0, -1)", SheetsTest::three, y -> y.get(0, 0, -1), LEAST_INT, 2);
    }

    private static SleptWitness five() {
        SleptWitness x = three();
        x.sheet(3, 2, 2);
        return x;
    }

    private static void copy() {
        SleptWitness x = five();
        due.is("copy(2, 1, 3, 0, 2)", x.copy(2, 1, 3, 0, 2), 1);
        row("where they came to", x, 3, 2, 22, 23);
        row("where they came from", x, 2, 2, 21, 22, 23, 24, 25);
        due.is("copy(2, 0, 2, 1, 4), its own", x.copy(2, 0, 2, 1, 4), 1);
        row("upward, as they were", x, 2, 2, 21, 21, 22, 23, 24);
        due.is("copy(2, 1, 2, 0, 4), its own", x.copy(2, 1, 2, 0, 4), 1);
        row("downward, as they were", x, 2, 2, 21, 22, 23, 24, 24);
        due.is("copy of none at the ends", x.copy(2, 5, 3, 2, 0), 1);
        due.is("copy of all", x.copy(3, 0, 2, 3, 2), 1);
        row("at the end", x, 2, 2, 21, 22, 23, 22, 23);
        due.is("copy of bytes", x.copy(0, 0, 0, 0, 3), 1);
    }

    private static void copyWrong() {
        int most = Integer.MAX_VALUE;
        int[][] bad = {{-1, 0}, {4, 0}, {0, -1}, {0, 4}, {3, 4}, {LEAST_INT, 0}, {0, most}};
        for (int[] w : bad) {
            due.refused("copy(" + w[0] + ", 0, " + w[1] + ", 0, 1)", SheetsTest::three, y -> y.copy(w[0], 0, w[1], 0, 1), Due.BAD);
        }
        due.found("copy from a LOST one", SheetsTest::three, y -> y.copy(3, 0, 2, 0, 99), Due.NULL, 1);
        due.found("copy to a LOST one", SheetsTest::three, y -> y.copy(2, 0, 3, 0, 99), Due.NULL, 1);
        due.found("copy of unlike FORMS", SheetsTest::three, y -> y.copy(0, 99, 1, -1, 1), Due.STORE, 4);
        due.found("copy of unlike FORMS, none", SheetsTest::three, y -> y.copy(2, 0, 1, 0, 0), Due.STORE, 4);
        int[][] wrong = {{-1, 0, 1}, {0, -1, 1}, {0, 0, -1}, {0, 0, 3}, {4, 0, 2}, {0, 1, 2}, {6, 0, 0}, {0, 3, 0},
            {most, 0, 1}, {1, 1, most}, {0, most, 1}, {most, most, most}, {LEAST_INT, 0, 1}, {0, 0, LEAST_INT}};
        for (int[] w : wrong) {
            due.found("copy(2, " + w[0] + ", 3, " + w[1] + ", " + w[2] + ")", SheetsTest::five, y -> y.copy(2, w[0], 3, w[1], w[2]), Due.INDEX, 2);
        }
    }

    private static void write() {
        SleptWitness x = three();
        due.is("write(0, 2)", x.write(0, 2), 5);
        row("a watchman woken in HOUR 0", x, 2, 2, 1, 0, 0, 1, 3);
        due.is("write(1, 0)", x.write(1, 0), 3);
        row("a young one", x, 0, 0, 2, 4, 6);
        x.sheet(1, 1, 60);
        for (int i = 0; i < 60; i++) {
            x.put(1, 1, i, 77);
        }
        due.is("write(1, 1)", x.write(1, 1), 50);
        due.is("HOUR 49", x.get(1, 1, 49), x.depth(49, 1));
        due.is("item 50 stays", x.get(1, 1, 50), 77);
        x.sheet(1, 0, 0);
        due.is("write(1, 1), no items", x.write(1, 1), 0);
        due.found("write(0, 3), LOST", SheetsTest::three, y -> y.write(0, 3), Due.NULL, 1);
        int[][] wrong = {{-1, 0}, {2, 0}, {0, -1}, {0, 4}, {2, 3}, {LEAST_INT, 0}, {0, Integer.MAX_VALUE}};
        for (int[] w : wrong) {
            due.refused("write(" + w[0] + ", " + w[1] + ")", SheetsTest::three, y -> y.write(w[0], w[1]), Due.BAD);
        }
    }

    private static void count() {
        SleptWitness x = Due.court("000w;300y;000i", "000k;060d;063d");
        x.told(0, 0, 0);
        // The watchman is woken and then has a MARK; the young one (2 DEEP) has MARKS of 3 LOUD twice.
        int[] want = {3, 3, 14, 14, 0, 3, 1, 1, 0};
        for (int what = 0; what < want.length; what++) {
            due.is("count(" + what + ")", x.count(what), want[what]);
        }
        x.law(2, 1);
        due.is("count(4) by 1", x.count(4), 3);
        x.type(1, 'x');
        due.is("count(1) with a FAULT", x.count(1), 0);
        due.is("count(3) with a FAULT", x.count(3), 15);
        due.is("count(5) with a FAULT", x.count(5), 0);
        int[] wrong = {-1, 9, LEAST_INT, Integer.MAX_VALUE};
        for (int w : wrong) {
            due.refused("count(" + w + ")", SheetsTest::three, y -> y.count(w), Due.BAD);
        }
        SleptWitness latest = three();
        latest.copy(0, 0, 1, 0, 0);
        latest.sheet(9, 9, 9);
        latest.type(9, 9);
        due.is("count(8) after refusals that are no FINDINGS", latest.count(8), 4);
        latest.put(0, 0, 0, 1);
        due.is("count(8) after what went well", latest.count(8), 4);
    }

    /** Without SLEEPERS and DEEDS: ten numbers, 50 and 0 for four sounds, then six. */
    private static void digest() {
        long h = 17;
        long[] all = {0, 0, 0, 0, 0, 0, 0, 0, -1, -1, 50, 0, 50, 0, 50, 0, 50, 0, -1, -1, 0, -1, 0, 0};
        for (long one : all) {
            h = 31 * h + one;
        }
        due.is("digest() of a new object", new SleptWitness().digest(), h);
        SleptWitness x = three();
        long before = x.digest();
        x.sheet(3, 0, 5);
        x.put(3, 1, 0, 0);
        due.is("digest() knows no SHEETS and no FINDING", x.digest(), before);
        SleptWitness eight = Due.court("000w", "000k;000k;000k;000k;000k;000k;000k;000k");
        due.is("digest() of eight DEEDS", eight.digest(), byCalls(eight));
        due.is("digest() of three()", before, byCalls(x));
        // A voice in HOUSE 4 wakes in HOUR 0, and beside it never does.
        SleptWitness four = Due.court("400w", "060d");
        four.law(2, 1);
        due.is("digest() by HOUSE 4", four.digest(), byCalls(four));
    }

    private static long byCalls(SleptWitness x) {
        long h = 17;
        for (int what = 0; what < 8; what++) h = 31 * h + x.count(what);
        h = 31 * h + x.fault(0);
        h = 31 * h + x.fault(1);
        for (int s = 0; s < x.count(0); s++) {
            for (int what = 0; what < 4; what++) h = 31 * h + x.sleeper(s, what);
            h = 31 * (31 * (31 * h + x.depth(5, s)) + x.depth(20, s)) + x.depth(49, s);
            h = 31 * (31 * h + x.nights(s, 0)) + x.nights(s, 1);
            h = 31 * (31 * h + x.move(s, 0)) + x.move(s, 1);
            h = 31 * (31 * h + x.feed(s, 0)) + x.feed(s, 1);
        }
        for (int d = 0; d < x.count(1); d++) {
            for (int what = 0; what < 3; what++) h = 31 * h + x.deed(d, what);
            for (int what = 0; what < 3; what++) h = 31 * h + x.proof(d, what);
            h = 31 * h + x.place(d);
            h = 31 * (31 * h + x.need(d, Due.NONE)) + x.need(d, 0);
            h = 31 * (31 * h + x.feign(5, d, 0)) + x.feign(5, d, 1);
            for (int s = 0; s < x.count(0); s++) {
                for (int what = 0; what < 3; what++) h = 31 * h + x.hears(d, s, what);
            }
        }
        for (int sound = 0; sound < 4; sound++) h = 31 * (31 * h + x.quiet(4, sound, Due.NONE)) + x.quiet(4, sound, 0);
        h = 31 * (31 * h + x.best()) + x.byAll();
        h = 31 * (31 * h + x.never()) + x.ask();
        return 31 * (31 * h + x.court(7, 8, 0)) + x.court(7, 8, 1);
    }
}
