import java.math.BigInteger;
import java.util.ArrayList;
import java.util.List;

/** The boundary cases of promises 27 to 34: SHEETS, counts, the digest, and what refusals leave. */
public final class SheetsEdgesTest {
    private static final int LEAST = Edges.LEAST_INT, MOST = Edges.MOST_INT;
    private static final int[] NO_SHEETS = {-1, 4, LEAST, MOST};
    private static final int[] NO_FORMS = {-1, 3, LEAST, MOST};
    private static final String EIGHT_WATCHMEN = "000w;000w;000w;000w;000w;000w;000w;000w";
    private static final String EIGHT_DOORS = "000d;060d;120d;180d;240d;300d;360d;420d";
    private static final String EIGHT_KNOCKS = "000k;030k;060k;090k;120k;150k;180k;210k";

    private static final Edges on = new Edges();

    public static void main(String[] args) {
        rows();
        items();
        copies();
        numbers();
        on.end("SheetsEdgesTest", 27, 34);
    }

    private static void rows() {
        on.edge(27, "0 bytes, 1 shorts, 2 ints, of 0 to 60 items (0 at first)", SheetsEdgesTest::sheetSizes);
        on.edge(27, "BAD: SHEET, FORM, above 60; SIZE", SheetsEdgesTest::sheetRefused);
        on.edge(27, "5 SIZE: below 0", SheetsEdgesTest::belowNone);
        on.edge(28, "It is LOST: how many items it had. BAD; NULL.", SheetsEdgesTest::lose);
        on.edge(28, "1 NULL: the SHEET is LOST", SheetsEdgesTest::lostTwice);
    }

    private static void items() {
        on.edge(29, "becomes v (the lowest bits that it has): 1", SheetsEdgesTest::lowestBits);
        on.edge(29, "2 INDEX: there is no such item", SheetsEdgesTest::putIndex);
        on.edge(29, "3 CAST: it has another FORM", SheetsEdgesTest::cast);
        on.edge(29, "(the lowest bits that it has): 1. BAD; NULL; CAST; INDEX.", SheetsEdgesTest::putRefused);
        on.edge(30, "BAD: the least int; so are NULL, CAST, INDEX (count() 8 tells)", SheetsEdgesTest::getRefused);
        on.edge(30, "Item i of it", SheetsEdgesTest::getEnds);
    }

    private static void copies() {
        on.edge(31, "come to SHEET t (perhaps s, as they were)", SheetsEdgesTest::copyOwn);
        on.edge(31, "n items of SHEET s, from i on, come to SHEET t", SheetsEdgesTest::copyEnds);
        on.edge(31, "INDEX: below 0, not so many", SheetsEdgesTest::copyIndex);
        on.edge(31, "BAD: the SHEETS; NULL: s, t; STORE; INDEX", SheetsEdgesTest::copyRefused);
        on.edge(31, "4 STORE: unlike FORMS", SheetsEdgesTest::store);
        on.edge(32, "as many as there are items, 50 at most: how many", SheetsEdgesTest::fiftyAtMost);
        on.edge(32, "50 at most: how many. BAD; NULL.", SheetsEdgesTest::writeRefused);
    }

    private static void numbers() {
        on.edge(33, "0 SLEEPERS, 1 DEEDS, 2, 3 bytes of texts, 4 DEEDS that are PROVEN, 5 MARKS in all, 6 how many times all are WOKEN,"
            + " 7 TOLD", SheetsEdgesTest::counts);
        on.edge(33, "8 the number of the latest FINDING (0 before any). BAD.", SheetsEdgesTest::latestFinding);
        on.edge(33, "They change nothing (FINDINGS but count() 8)", SheetsEdgesTest::changesNothing);
        on.edge(34, "as longs that wrap", SheetsEdgesTest::digests);
        on.edge(34, "h is 17; h becomes 31 h and each of: count() 0 to 7", SheetsEdgesTest::digestKnows);
    }

    /** SHEET 0 has 3 bytes, 1 has 4 shorts, 2 has 5 ints, 3 is LOST. */
    private static SleptWitness three() {
        SleptWitness x = Due.court("000w;300y", "000k;010d");
        for (int s = 0; s < 3; s++) {
            x.sheet(s, s, 3 + s);
            for (int i = 0; i < 3 + s; i++) {
                x.put(s, s, i, 10 * s + i + 1);
            }
        }
        return x;
    }

    /** Like three(), but SHEET 3 has 2 ints. */
    private static SleptWitness four() {
        SleptWitness x = three();
        x.sheet(3, 2, 2);
        return x;
    }

    private static void row(SleptWitness x, int s, int form, int... want) {
        for (int i = 0; i < want.length; i++) {
            on.answers(x, want[i], "get", s, form, i);
        }
        x.sheet(0, 0, -1);
        on.answers(x, LEAST, "get", s, form, want.length);
        on.answers(x, 2, "count", 8);
    }

    // ---- rows

    private static void sheetSizes() {
        for (int s = 0; s < 4; s++) {
            for (int form = 0; form < 3; form++) {
                for (int n : new int[] {0, 1, 59, 60}) {
                    SleptWitness x = new SleptWitness();
                    on.answers(x, n, "sheet", s, form, n);
                    row(x, s, form, new int[n]);
                    on.answers(x, n, "lose", s);
                }
            }
        }
        // A new row has nothing of the old one, be it shorter, as long or longer.
        for (int n : new int[] {0, 4, 5, 6}) {
            SleptWitness x = three();
            on.answers(x, n, "sheet", 2, 2, n);
            row(x, 2, 2, new int[n]);
            x.sheet(2, 2, 60);
            row(x, 2, 2, new int[60]);
            row(x, 1, 1, 11, 12, 13, 14);
        }
    }

    private static void sheetRefused() {
        for (int s : NO_SHEETS) {
            on.bad(SheetsEdgesTest::three, "sheet", s, 0, 1);
            // BAD and SIZE would both fit.
            on.bad(SheetsEdgesTest::three, "sheet", s, 0, -1);
        }
        for (int form : NO_FORMS) {
            on.bad(SheetsEdgesTest::three, "sheet", 0, form, 1);
            on.bad(SheetsEdgesTest::three, "sheet", 0, form, -1);
        }
        on.bad(SheetsEdgesTest::three, "sheet", 0, 0, 61);
        on.bad(SheetsEdgesTest::three, "sheet", 3, 2, 61);
        on.bad(SheetsEdgesTest::three, "sheet", 0, 0, MOST);
    }

    private static void belowNone() {
        for (int s = 0; s < 4; s++) {
            on.finds(SheetsEdgesTest::three, 5, "sheet", s, 0, -1);
            on.finds(SheetsEdgesTest::three, 5, "sheet", s, 2, LEAST);
        }
        on.answers(new SleptWitness(), 0, "sheet", 0, 0, 0);
    }

    private static void lose() {
        for (int n : new int[] {0, 1, 60}) {
            SleptWitness x = four();
            x.sheet(1, 1, n);
            on.answers(x, n, "lose", 1);
            on.answers(x, LEAST, "get", 1, 1, 0);
            on.answers(x, 1, "count", 8);
            row(x, 2, 2, 21, 22, 23, 24, 25);
        }
        for (int s : NO_SHEETS) {
            on.bad(SheetsEdgesTest::three, "lose", s);
        }
    }

    private static void lostTwice() {
        on.finds(SheetsEdgesTest::three, 1, "lose", 3);
        for (int s = 0; s < 4; s++) {
            on.finds(SleptWitness::new, 1, "lose", s);
        }
        SleptWitness x = three();
        on.answers(x, 5, "lose", 2);
        on.answers(x, Due.NULL, "lose", 2);
        on.answers(x, Due.NULL, "put", 2, 2, 0, 1);
        on.answers(x, Due.NULL, "copy", 2, 0, 2, 0, 0);
        on.answers(x, Due.NULL, "write", 0, 2);
        on.answers(x, Due.NULL, "read", 2);
        // A SHEET of no items is not LOST.
        on.answers(x, 0, "sheet", 2, 2, 0);
        on.answers(x, 0, "read", 2);
        on.answers(x, 0, "lose", 2);
    }

    // ---- items

    private static void putsAs(int form, int v, int want) {
        SleptWitness x = three();
        on.answers(x, 1, "put", form, form, 1, v);
        on.answers(x, want, "get", form, form, 1);
        on.answers(x, 10 * form + 1, "get", form, form, 0);
        on.answers(x, 10 * form + 3, "get", form, form, 2);
    }

    private static void lowestBits() {
        int[][] bytes = {{0, 0}, {127, 127}, {128, -128}, {255, -1}, {256, 0}, {-1, -1}, {-128, -128}, {-129, 127}, {LEAST, 0}, {MOST, -1}};
        for (int[] b : bytes) {
            putsAs(0, b[0], b[1]);
        }
        int[][] shorts = {{128, 128}, {255, 255}, {32767, 32767}, {32768, -32768}, {65535, -1}, {65536, 0}, {-32768, -32768},
            {-32769, 32767}, {LEAST, 0}, {MOST, -1}};
        for (int[] h : shorts) {
            putsAs(1, h[0], h[1]);
        }
        for (int v : new int[] {0, -1, 32768, 65536, LEAST, MOST}) {
            putsAs(2, v, v);
        }
    }

    private static void putIndex() {
        for (int s = 0; s < 3; s++) {
            SleptWitness x = three();
            on.answers(x, 1, "put", s, s, 0, 7);
            on.answers(x, 1, "put", s, s, 2 + s, 8);
            on.answers(x, 7, "get", s, s, 0);
            on.answers(x, 8, "get", s, s, 2 + s);
            for (int i : new int[] {-1, 3 + s, 60, LEAST, MOST}) {
                on.finds(SheetsEdgesTest::three, 2, "put", s, s, i, 9);
            }
        }
        on.finds(() -> withRow(0), 2, "put", 3, 1, 0, 9);
        on.answers(withRow(60), 1, "put", 3, 1, 59, 9);
        on.finds(() -> withRow(12), 2, "put", 3, 1, 12, 9);
        on.answers(withRow(60), Due.INDEX, "put", 3, 1, 60, 9);
    }

    private static SleptWitness withRow(int n) {
        SleptWitness x = three();
        x.sheet(3, 1, n);
        return x;
    }

    private static void cast() {
        for (int s = 0; s < 3; s++) {
            for (int form = 0; form < 3; form++) {
                if (form != s) {
                    on.finds(SheetsEdgesTest::three, 3, "put", s, form, 0, 9);
                    on.finds(SheetsEdgesTest::three, 3, "get", s, form, 0);
                }
            }
        }
        // Also of no items at all.
        on.finds(() -> withRow(0), 3, "put", 3, 0, 0, 9);
        on.finds(() -> withRow(0), 3, "get", 3, 2, 0);
    }

    private static void putRefused() {
        for (int s : NO_SHEETS) {
            on.bad(SheetsEdgesTest::three, "put", s, 0, 0, 9);
            on.bad(SheetsEdgesTest::three, "put", s, 0, -1, 9);
        }
        for (int form : NO_FORMS) {
            on.bad(SheetsEdgesTest::three, "put", 0, form, 0, 9);
            // BAD is ahead of NULL and of INDEX.
            on.bad(SheetsEdgesTest::three, "put", 3, form, 0, 9);
            on.bad(SheetsEdgesTest::three, "put", 0, form, -1, 9);
        }
        // NULL is ahead of CAST and INDEX, CAST of INDEX.
        for (int form = 0; form < 3; form++) {
            on.finds(SheetsEdgesTest::three, 1, "put", 3, form, -1, 9);
        }
        on.finds(SheetsEdgesTest::three, 3, "put", 0, 1, -1, 9);
        on.finds(SheetsEdgesTest::three, 3, "put", 0, 2, 3, 9);
    }

    private static void getRefused() {
        for (int s : NO_SHEETS) {
            on.refuses(SheetsEdgesTest::three, LEAST, "get", s, 0, 0);
            on.refuses(SheetsEdgesTest::three, LEAST, "get", s, 0, -1);
        }
        for (int form : NO_FORMS) {
            on.refuses(SheetsEdgesTest::three, LEAST, "get", 0, form, 0);
            on.refuses(SheetsEdgesTest::three, LEAST, "get", 3, form, 0);
            on.refuses(SheetsEdgesTest::three, LEAST, "get", 0, form, -1);
        }
        for (int form = 0; form < 3; form++) {
            on.finds(SheetsEdgesTest::three, 1, "get", 3, form, -1);
        }
        on.finds(SheetsEdgesTest::three, 3, "get", 0, 1, -1);
        on.finds(SheetsEdgesTest::three, 3, "get", 0, 2, 3);
        for (int s = 0; s < 3; s++) {
            for (int i : new int[] {-1, 3 + s, 60, LEAST, MOST}) {
                on.finds(SheetsEdgesTest::three, 2, "get", s, s, i);
            }
        }
        on.finds(() -> withRow(0), 2, "get", 3, 1, 0);
    }

    private static void getEnds() {
        SleptWitness x = three();
        on.answers(x, 1, "get", 0, 0, 0);
        on.answers(x, 3, "get", 0, 0, 2);
        on.answers(x, 14, "get", 1, 1, 3);
        on.answers(x, 25, "get", 2, 2, 4);
        on.answers(withRow(60), 0, "get", 3, 1, 59);
        // The least int as an item is no refusal.
        SleptWitness y = three();
        y.put(2, 2, 0, LEAST);
        on.answers(y, LEAST, "get", 2, 2, 0);
        on.answers(y, 0, "count", 8);
    }

    // ---- copy, write

    private static void copyOwn() {
        int[][] ways = {
            {0, 1, 4, 21, 21, 22, 23, 24}, {1, 0, 4, 22, 23, 24, 25, 25}, {0, 2, 3, 21, 22, 21, 22, 23}, {2, 0, 3, 23, 24, 25, 24, 25},
            {0, 4, 1, 21, 22, 23, 24, 21}, {4, 0, 1, 25, 22, 23, 24, 25}, {0, 0, 5, 21, 22, 23, 24, 25}, {3, 3, 2, 21, 22, 23, 24, 25},
        };
        for (int[] w : ways) {
            SleptWitness x = three();
            on.answers(x, 1, "copy", 2, w[0], 2, w[1], w[2]);
            row(x, 2, 2, w[3], w[4], w[5], w[6], w[7]);
        }
    }

    private static void copyEnds() {
        SleptWitness x = four();
        on.answers(x, 1, "copy", 2, 3, 3, 0, 2);
        row(x, 3, 2, 24, 25);
        row(x, 2, 2, 21, 22, 23, 24, 25);
        on.answers(x, 1, "copy", 2, 0, 3, 1, 1);
        row(x, 3, 2, 24, 21);
        on.answers(x, 1, "copy", 3, 0, 2, 3, 2);
        row(x, 2, 2, 21, 22, 23, 24, 21);
        // None, also from behind the last item to behind the last.
        for (int[] w : new int[][] {{0, 0}, {5, 2}, {5, 0}, {0, 2}}) {
            SleptWitness y = four();
            on.answers(y, 1, "copy", 2, w[0], 3, w[1], 0);
            on.alike("none came", y, four());
        }
        SleptWitness none = withRow(0);
        on.answers(none, 1, "copy", 3, 0, 3, 0, 0);
        on.answers(none, 1, "copy", 1, 4, 3, 0, 0);
        for (int form = 0; form < 3; form++) {
            sixty(form);
        }
    }

    private static void sixty(int form) {
        SleptWitness x = new SleptWitness();
        x.sheet(0, form, 60);
        x.sheet(1, form, 60);
        int[] want = new int[60];
        for (int i = 0; i < 60; i++) {
            x.put(0, form, i, i - 30);
            want[i] = i - 30;
        }
        on.answers(x, 1, "copy", 0, 0, 1, 0, 60);
        row(x, 1, form, want);
        on.answers(x, Due.INDEX, "copy", 0, 0, 1, 0, 61);
    }

    /** From SHEET 2 of 5 items to SHEET 3 of 2; some of the sums are beyond the greatest int. */
    private static void copyIndex() {
        int[][] wrong = {
            {-1, 0, 1}, {0, -1, 1}, {0, 0, -1}, {-1, 0, 0}, {0, -1, 0}, {0, 0, 3}, {5, 0, 1}, {4, 0, 2}, {6, 0, 0}, {0, 2, 1}, {0, 1, 2},
            {0, 3, 0}, {-1, -1, -1}, {1, 0, -1}, {LEAST, 0, 0}, {0, LEAST, 0}, {0, 0, LEAST}, {MOST, 0, 0}, {0, MOST, 0}, {0, 0, MOST},
            {1, 0, MOST}, {0, 1, MOST}, {1, 1, MOST}, {MOST, 0, 1}, {0, MOST, 1}, {MOST, MOST, 1}, {MOST, MOST, MOST}, {2, 2, MOST - 1},
            {LEAST, LEAST, LEAST}, {MOST, 0, LEAST}, {5, 2, LEAST},
        };
        for (int[] w : wrong) {
            on.finds(SheetsEdgesTest::four, 2, "copy", 2, w[0], 3, w[1], w[2]);
        }
        // Into the shorter not so many as are asked for, and from it.
        on.finds(SheetsEdgesTest::four, 2, "copy", 3, 0, 2, 0, 3);
        on.finds(SheetsEdgesTest::four, 2, "copy", 3, 1, 2, 0, 2);
        on.finds(SheetsEdgesTest::four, 2, "copy", 2, 0, 2, 1, 5);
    }

    private static void copyRefused() {
        for (int s : NO_SHEETS) {
            on.bad(SheetsEdgesTest::three, "copy", s, 0, 0, 0, 1);
            on.bad(SheetsEdgesTest::three, "copy", 0, 0, s, 0, 1);
            // BAD is ahead of NULL and of INDEX.
            on.bad(SheetsEdgesTest::three, "copy", s, 0, 3, 0, 1);
            on.bad(SheetsEdgesTest::three, "copy", 3, 0, s, 0, 1);
            on.bad(SheetsEdgesTest::three, "copy", s, -1, s, -1, -1);
        }
        // NULL, of s, of t and of both, is ahead of STORE and INDEX.
        for (int s = 0; s < 4; s++) {
            on.finds(SheetsEdgesTest::three, 1, "copy", s, -1, 3, -1, -1);
            on.finds(SheetsEdgesTest::three, 1, "copy", 3, 0, s, 0, 0);
        }
    }

    private static void store() {
        for (int s = 0; s < 3; s++) {
            for (int t = 0; t < 3; t++) {
                if (s != t) {
                    on.finds(SheetsEdgesTest::three, 4, "copy", s, 0, t, 0, 1);
                    on.finds(SheetsEdgesTest::three, 4, "copy", s, 0, t, 0, 0);
                    // STORE is ahead of INDEX.
                    on.finds(SheetsEdgesTest::three, 4, "copy", s, -1, t, 99, -1);
                } else {
                    on.answers(three(), 1, "copy", s, 0, t, 0, 1);
                }
            }
        }
    }

    private static void fiftyAtMost() {
        for (int n : new int[] {0, 1, 49, 50, 51, 60}) {
            for (int form = 0; form < 3; form++) {
                writes(n, form);
            }
        }
    }

    private static void writes(int n, int form) {
        SleptWitness x = Due.court("903w;003y", "000f;470f");
        x.sheet(1, form, n);
        for (int i = 0; i < n; i++) {
            x.put(1, form, i, 77);
        }
        on.answers(x, Math.min(n, 50), "write", 1, 1);
        int[] want = new int[n];
        for (int i = 0; i < n; i++) {
            want[i] = i < 50 ? x.depth(i, 1) : 77;
        }
        row(x, 1, form, want);
    }

    private static void writeRefused() {
        for (int sleeper : new int[] {-1, 2, 8, LEAST, MOST}) {
            on.bad(SheetsEdgesTest::three, "write", sleeper, 0);
            // BAD is ahead of NULL.
            on.bad(SheetsEdgesTest::three, "write", sleeper, 3);
        }
        for (int s : NO_SHEETS) {
            on.bad(SheetsEdgesTest::three, "write", 0, s);
        }
        on.finds(SheetsEdgesTest::three, 1, "write", 0, 3);
        on.finds(SheetsEdgesTest::three, 1, "write", 1, 3);
        on.bad(SleptWitness::new, "write", 0, 0);
        SleptWitness last = Due.court(EIGHT_WATCHMEN, "");
        last.sheet(3, 0, 2);
        on.answers(last, 2, "write", 7, 3);
        on.answers(last, Due.BAD, "write", 8, 3);
    }

    // ---- counts, the digest

    private static void countsOf(SleptWitness x, int... want) {
        for (int what = 0; what < want.length; what++) {
            on.answers(x, want[what], "count", what);
        }
    }

    private static void counts() {
        countsOf(new SleptWitness(), 0, 0, 0, 0, 0, 0, 0, 0, 0);
        SleptWitness doors = Due.court(EIGHT_WATCHMEN, EIGHT_DOORS);
        for (int n = 0; n < 8; n++) {
            doors.told(0, 0, 0);
        }
        countsOf(doors, 8, 8, 39, 39, 8, 64, 0, 8, 0);
        countsOf(Due.court(EIGHT_WATCHMEN, EIGHT_KNOCKS), 8, 8, 39, 39, 0, 0, 64, 0, 0);
        countsOf(Due.court(EIGHT_WATCHMEN, ""), 8, 0, 39, 0, 0, 0, 0, 0, 0);
        countsOf(Due.court("", EIGHT_DOORS), 0, 8, 0, 39, 0, 0, 0, 0, 0);
        // Just as many as PROOF, and one less.
        doors.law(2, 8);
        on.answers(doors, 8, "count", 4);
        SleptWitness seven = Due.court(EIGHT_WATCHMEN.substring(5), EIGHT_DOORS);
        seven.law(2, 8);
        countsOf(seven, 7, 8, 34, 39, 0, 56, 0, 0, 0);
        for (int what : new int[] {-1, 9, LEAST, MOST}) {
            on.bad(SheetsEdgesTest::three, "count", what);
            on.bad(SleptWitness::new, "count", what);
        }
    }

    private static void latestFinding() {
        SleptWitness x = three();
        on.answers(x, 0, "count", 8);
        int[][] calls = {{3}, {0, 0, 0, 9, 1}, {0, 1, 0}, {0, 0, 1, 0, 1}, {0, 0, -1}};
        String[] names = {"lose", "copy", "get", "copy", "sheet"};
        for (int k = 0; k < 5; k++) {
            Edges.call(x, names[k], calls[k]);
            on.answers(x, k + 1, "count", 8);
        }
        // BAD, NOT and FULL are no FINDINGS, and what goes well leaves the latest one.
        x.put(0, 0, 3, 9);
        SleptWitness full = Due.court("", EIGHT_DOORS);
        full.lose(0);
        full.get(9, 0, 0);
        full.sheet(0, 0, 61);
        full.undo(0);
        full.type(1, '0');
        full.quiet(0, 0, 0);
        full.sheet(0, 0, 1);
        full.put(0, 0, 0, 1);
        full.get(0, 0, 0);
        full.digest();
        on.answers(full, 1, "count", 8);
        on.answers(x, 2, "count", 8);
    }

    /** One refusal of each kind behind another: nothing but the latest FINDING is left of them. */
    private static void changesNothing() {
        SleptWitness x = four();
        for (int n = 0; n < 8; n++) {
            x.told(0, 3, 1);
        }
        String before = Due.state(x);
        Object[][] refused = {
            {"type", 0, 256}, {"type", 2, 48}, {"wipe", 2}, {"undo", -1}, {"law", 2, 0}, {"law", 0, 10}, {"told", 0, 0, 0},
            {"told", 8, 0, 0}, {"read", 4}, {"sheet", 0, 0, 61}, {"sheet", 0, 0, -1}, {"lose", 4}, {"put", 0, 1, 0, 9}, {"put", 0, 0, 3, 9},
            {"put", 0, 3, 0, 9}, {"get", 0, 0, 3}, {"copy", 0, 0, 1, 0, 1}, {"copy", 2, 0, 3, 0, 3}, {"copy", 0, 0, 4, 0, 1}, {"write", 2, 0},
            {"write", 0, 4}, {"quiet", 0, 4, 0}, {"move", 2, 0}, {"need", 2, 0}, {"feed", 0, 2}, {"court", 1, 9, 0}, {"count", 9},
        };
        for (Object[] call : refused) {
            int[] args = new int[call.length - 1];
            for (int k = 0; k < args.length; k++) {
                args[k] = (Integer) call[k + 1];
            }
            on.holds(call[0] + " is refused", Edges.call(x, (String) call[0], args) < 0);
        }
        on.holds("nothing is changed", before.equals(Due.state(x)));
    }

    private static void digests() {
        SleptWitness told = three();
        told.told(0, 3, 1);
        told.told(1, 0, 1);
        SleptWitness odd = Due.court("300y;412o;402w;201i;513y;600o;733w", "033k;034v;049f;129d;123k;144f;175k");
        odd.law(2, 3);
        // A voice in HOUSE 4 wakes in HOUR 0, and in the HOUSES beside it never does.
        SleptWitness four = Due.court("400w", "060d");
        four.law(2, 1);
        SleptWitness[] some = {
            new SleptWitness(), three(), told, odd, four, Due.court(EIGHT_WATCHMEN, EIGHT_DOORS), Due.court(EIGHT_WATCHMEN, EIGHT_KNOCKS),
            Due.court("", EIGHT_DOORS), Due.court(EIGHT_WATCHMEN, ""), Due.court("000w;", "010d;"), Due.court("z", "010d"),
            Due.court(Edges.EIGHT_SLEEPERS, Edges.EIGHT_DEEDS),
        };
        for (SleptWitness x : some) {
            on.answers(x, wrapped(terms(x)), "digest");
        }
    }

    private static long wrapped(List<Long> terms) {
        BigInteger h = BigInteger.valueOf(17);
        for (long term : terms) {
            h = h.multiply(BigInteger.valueOf(31)).add(BigInteger.valueOf(term));
        }
        return h.longValue();
    }

    /** Counts are asked once: with eight of each an object comes near its 512 calls. */
    private static List<Long> terms(SleptWitness x) {
        List<Long> all = new ArrayList<>();
        int sleepers = x.count(0);
        int deeds = x.count(1);
        for (int what = 0; what <= 7; what++) add(all, x, "count", what);
        for (int text = 0; text < 2; text++) add(all, x, "fault", text);
        for (int s = 0; s < sleepers; s++) {
            for (int what = 0; what <= 3; what++) add(all, x, "sleeper", s, what);
            for (int hour : new int[] {5, 20, 49}) add(all, x, "depth", hour, s);
            for (String name : new String[] {"nights", "move", "feed"}) {
                for (int what = 0; what <= 1; what++) add(all, x, name, s, what);
            }
        }
        for (int d = 0; d < deeds; d++) {
            addDeed(all, x, d, sleepers);
        }
        for (int sound = 0; sound <= 3; sound++) {
            for (int i = Due.NONE; i <= 0; i++) add(all, x, "quiet", 4, sound, i);
        }
        for (String name : new String[] {"best", "byAll", "never", "ask"}) add(all, x, name);
        for (int what = 0; what <= 1; what++) add(all, x, "court", 7, 8, what);
        return all;
    }

    private static void addDeed(List<Long> all, SleptWitness x, int d, int sleepers) {
        for (int what = 0; what <= 2; what++) add(all, x, "deed", d, what);
        for (int what = 0; what <= 2; what++) add(all, x, "proof", d, what);
        add(all, x, "place", d);
        for (int i = Due.NONE; i <= 0; i++) add(all, x, "need", d, i);
        for (int what = 0; what <= 1; what++) add(all, x, "feign", 5, d, what);
        for (int s = 0; s < sleepers; s++) {
            for (int what = 0; what <= 2; what++) add(all, x, "hears", d, s, what);
        }
    }

    private static void add(List<Long> all, SleptWitness x, String name, int... args) {
        all.add(Edges.call(x, name, args));
    }

    /** Of count() 8 and of SHEETS it knows nothing, and asking it changes nothing. */
    private static void digestKnows() {
        SleptWitness x = three();
        long before = x.digest();
        x.sheet(3, 0, -1);
        on.answers(x, before, "digest");
        on.answers(x, 5, "count", 8);
        x.lose(2);
        on.answers(x, before, "digest");
        x.told(7, 0, 0);
        on.holds("it knows what was TOLD", x.digest() != before);
    }
}
