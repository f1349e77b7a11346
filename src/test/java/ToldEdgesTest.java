import java.math.BigInteger;

/** The boundary cases of promises 19 to 26: TOLD, NEVER, PLACE, ASK, FEIGN, COURT. The rows are by hand. */
public final class ToldEdgesTest {
    private static final String EIGHT_DOORS = "000d;060d;120d;180d;240d;300d;360d;420d";
    private static final String EIGHT_WATCHMEN = "000w;000w;000w;000w;000w;000w;000w;000w";
    private static final int[] WILD = {Edges.LEAST_INT, Edges.MOST_INT};

    private static final Edges on = new Edges();

    public static void main(String[] args) {
        tales();
        guesses();
        chances();
        on.end("ToldEdgesTest", 19, 26);
    }

    private static void tales() {
        on.edge(19, "TOLD, 8 at most", ToldEdgesTest::eightAtMost);
        on.edge(19, "a SLEEPER (0 to 7) had so many MARKS of a sound (0 to 3) in all (0 to 8", ToldEdgesTest::toldRefused);
        on.edge(19, "TOLD more: how many. BAD; FULL.", ToldEdgesTest::toldBoth);
        on.edge(20, "All that was TOLD is forgotten: how many.", ToldEdgesTest::forget);
        on.edge(21, "its items, three for each, as many as are whole", ToldEdgesTest::whole);
        on.edge(21, "as long as each may be: how many", ToldEdgesTest::mayBe);
        on.edge(21, "as long as each may be", ToldEdgesTest::readTillEight);
        on.edge(21, "as long as each may be: how many. BAD; NULL.", ToldEdgesTest::readRefused);
    }

    private static void guesses() {
        on.edge(22, "one that there is not: never", ToldEdgesTest::oneThatThereIsNot);
        on.edge(22, "had it alone not been, makes all that was TOLD come out so, as bits", ToldEdgesTest::never);
        on.edge(22, "in all (0 to 8", ToldEdgesTest::noneAndEightMarks);
        on.edge(23, "HOUSES (0 to 9) in place of its own, likewise, as bits", ToldEdgesTest::place);
        on.edge(23, "PLACE, as bits. BAD.", ToldEdgesTest::placeRefused);
        on.edge(24, "is least, of like ones the least", ToldEdgesTest::ask);
        on.edge(24, "of like ones the least; NONE: there are none", ToldEdgesTest::askNone);
    }

    private static void chances() {
        on.edge(25, "each SLEEPER is an insomniac by c sixteenths (0 to 16)", ToldEdgesTest::feignEnds);
        on.edge(25, "FRACTIONS are told in lowest terms, above and below (0 by 1)", ToldEdgesTest::lowestTerms);
        on.edge(25, "FEIGN: above, below. BAD. (As the least long.)", ToldEdgesTest::feignRefused);
        on.edge(25, "Where the answer is a long, a refusal -x is the least long and x more", ToldEdgesTest::leastLong);
        on.edge(26, "n DEEDS (1 to 8)", ToldEdgesTest::courtOfEach);
        on.edge(26, "SEED becomes 1103515245 SEED and 12345, as ints that wrap", ToldEdgesTest::courtWraps);
        on.edge(26, "its upper 16 bits as a number from 0 on, modulo m", ToldEdgesTest::courtUpperBits);
        on.edge(26, "COURT: how many are PROVEN (what = 0), how many MARKS (1). BAD.", ToldEdgesTest::courtRefused);
    }

    /** The knock wakes, so the door in the next HOUR is heard AWAKE; without it the door makes a MARK. */
    private static SleptWitness knockAndDoor() {
        return Due.court("000w", "000k;010d");
    }

    private static SleptWitness toldTimes(int many) {
        SleptWitness x = knockAndDoor();
        for (int n = 0; n < many; n++) {
            x.told(0, 0, 0);
        }
        return x;
    }

    private static SleptWitness eightTold() {
        return toldTimes(8);
    }

    // ---- TOLD

    private static void eightAtMost() {
        SleptWitness x = knockAndDoor();
        for (int n = 1; n <= 8; n++) {
            on.answers(x, n, "told", 0, 0, 0);
            on.answers(x, n, "count", 7);
        }
        on.answers(x, Due.FULL, "told", 0, 0, 0);
        on.answers(x, 8, "count", 7);
        on.refuses(ToldEdgesTest::eightTold, Due.FULL, "told", 0, 0, 0);
        on.refuses(ToldEdgesTest::eightTold, Due.FULL, "told", 7, 3, 8);
    }

    private static void toldRefused() {
        SleptWitness x = new SleptWitness();
        on.answers(x, 1, "told", 0, 0, 0);
        on.answers(x, 2, "told", 7, 3, 8);
        int[][] wrong = {{-1, 0, 0}, {8, 0, 0}, {0, -1, 0}, {0, 4, 0}, {0, 0, -1}, {0, 0, 9}};
        for (int[] w : wrong) {
            on.bad(ToldEdgesTest::knockAndDoor, "told", w);
        }
        for (int wild : WILD) {
            on.bad(ToldEdgesTest::knockAndDoor, "told", wild, 0, 0);
            on.bad(ToldEdgesTest::knockAndDoor, "told", 0, wild, 0);
            on.bad(ToldEdgesTest::knockAndDoor, "told", 0, 0, wild);
        }
    }

    /** BAD and FULL would both fit. */
    private static void toldBoth() {
        int[][] wrong = {{-1, 0, 0}, {8, 0, 0}, {0, -1, 0}, {0, 4, 0}, {0, 0, -1}, {0, 0, 9}};
        for (int[] w : wrong) {
            on.bad(ToldEdgesTest::eightTold, "told", w);
        }
    }

    private static void forget() {
        on.answers(new SleptWitness(), 0, "forget");
        for (int many = 0; many <= 8; many++) {
            SleptWitness x = toldTimes(many);
            on.answers(x, many, "forget");
            on.answers(x, 0, "count", 7);
            on.answers(x, 0, "forget");
            on.alike("forgotten is never told", x, knockAndDoor());
        }
        SleptWitness x = knockAndDoor();
        x.told(0, 1, 8);
        on.answers(x, 0, "never");
        x.forget();
        on.answers(x, 3, "never");
        on.answers(x, 1, "told", 0, 0, 0);
    }

    private static SleptWitness withSheet(int form, int size, int... items) {
        SleptWitness x = knockAndDoor();
        x.sheet(2, form, size);
        for (int i = 0; i < items.length; i++) {
            x.put(2, form, i, items[i]);
        }
        return x;
    }

    private static void reads(SleptWitness x, int want) {
        int had = x.count(7);
        on.answers(x, want, "read", 2);
        on.answers(x, had + want, "count", 7);
    }

    private static void whole() {
        for (int form = 0; form < 3; form++) {
            for (int size = 0; size <= 26; size++) {
                reads(withSheet(form, size), size / 3);
            }
        }
        // The one that is not whole is not TOLD, though its items may be.
        SleptWitness x = withSheet(2, 5, 0, 3, 1, 0, 0);
        reads(x, 1);
        on.answers(x, 1, "never");
    }

    private static void mayBe() {
        reads(withSheet(2, 3, 7, 3, 8), 1);
        int[][] wrong = {{-1, 0, 0}, {8, 0, 0}, {0, -1, 0}, {0, 4, 0}, {0, 0, -1}, {0, 0, 9}, {256, 0, 0}, {0, 256, 0}, {0, 0, 65536},
            {Edges.LEAST_INT, 0, 0}, {0, Edges.MOST_INT, 0}, {0, 0, Edges.LEAST_INT}};
        for (int[] w : wrong) {
            // It ends the reading, also of the one behind it, which may be.
            reads(withSheet(2, 6, w), 0);
            reads(withSheet(2, 9, 0, 0, 0, w[0], w[1], w[2]), 1);
        }
        // Cut to a byte and to a short these may be.
        reads(withSheet(0, 3, 256, 259, 264), 1);
        reads(withSheet(1, 3, 65536, 65539, 65544), 1);
        reads(withSheet(0, 3, 255, 0, 0), 0);
    }

    private static void readTillEight() {
        reads(withSheet(2, 24), 8);
        reads(withSheet(2, 27), 8);
        reads(withSheet(2, 60), 8);
        for (int told = 0; told <= 8; told++) {
            SleptWitness x = withSheet(2, 6);
            for (int n = 0; n < told; n++) {
                x.told(0, 0, 0);
            }
            reads(x, Math.min(2, 8 - told));
            on.answers(x, 0, "count", 8);
        }
    }

    private static void readRefused() {
        for (int s : new int[] {-1, 4, Edges.LEAST_INT, Edges.MOST_INT}) {
            on.bad(ToldEdgesTest::knockAndDoor, "read", s);
            on.bad(ToldEdgesTest::eightTold, "read", s);
        }
        for (int s = 0; s < 4; s++) {
            on.finds(ToldEdgesTest::knockAndDoor, 1, "read", s);
            on.finds(ToldEdgesTest::eightTold, 1, "read", s);
        }
        on.finds(() -> {
            SleptWitness x = withSheet(0, 3);
            x.lose(2);
            return x;
        }, 1, "read", 2);
    }

    // ---- NEVER, PLACE, ASK

    private static void oneThatThereIsNot() {
        for (int who = 0; who < 8; who++) {
            SleptWitness x = Due.court("300i;300i", "000d;010d");
            x.told(who, 0, 0);
            on.answers(x, who < 2 ? 3 : 0, "never");
            on.answers(x, who < 2 ? 1023 : 0, "place", 0);
        }
        SleptWitness later = Due.court("300i", "000d");
        later.told(1, 3, 0);
        on.answers(later, 0, "never");
        Due.type(later, 0, ";300i");
        on.answers(later, 1, "never");
        later.wipe(0);
        on.answers(later, 0, "never");
        SleptWitness all = Due.court(EIGHT_WATCHMEN, "000d");
        all.told(7, 3, 0);
        on.answers(all, 1, "never");
    }

    private static void neverBy(SleptWitness x, int sleeper, int sound, int n, int want) {
        x.told(sleeper, sound, n);
        on.answers(x, want, "never");
    }

    private static void never() {
        on.answers(new SleptWitness(), 0, "never");
        on.answers(Due.court("000w", ""), 0, "never");
        on.answers(Due.court("", "000k"), 1, "never");
        on.answers(Due.court("", EIGHT_DOORS), 255, "never");
        neverBy(knockAndDoor(), 0, 3, 1, 1);
        neverBy(knockAndDoor(), 0, 3, 0, 2);
        neverBy(Due.court("000w", ""), 0, 3, 0, 0);
        // Without the only DEED nothing is left to have a MARK of.
        neverBy(Due.court("000w", "000d"), 0, 3, 0, 1);
        neverBy(Due.court("000w", "000d"), 0, 3, 1, 0);
        neverBy(Due.court("000w", EIGHT_DOORS.substring(0, 34) + ";420k"), 0, 3, 7, 128);
        // All eight that may be TOLD are asked, the last one, too.
        SleptWitness x = toldTimes(7);
        on.answers(x, 3, "never");
        neverBy(x, 0, 3, 1, 1);
    }

    private static void noneAndEightMarks() {
        neverBy(Due.court("000w", EIGHT_DOORS), 0, 3, 7, 255);
        neverBy(Due.court("000w", EIGHT_DOORS), 0, 3, 8, 0);
        neverBy(Due.court("000w", EIGHT_DOORS), 0, 0, 0, 255);
        // In place of its own HOUSE the eighth still makes eight.
        SleptWitness x = Due.court("000w", EIGHT_DOORS);
        x.told(0, 3, 8);
        on.answers(x, 7, "place", 7);
        x.told(0, 2, 0);
        on.answers(x, 7, "place", 0);
    }

    private static void place() {
        SleptWitness low = Due.court("000w", "010d");
        on.answers(low, 1023, "place", 0);
        low.told(0, 3, 1);
        on.answers(low, 1 + 2 + 4, "place", 0);
        SleptWitness high = Due.court("900w", "010d");
        high.told(0, 3, 1);
        on.answers(high, 128 + 256 + 512, "place", 0);
        SleptWitness none = Due.court("900w", "010d");
        none.told(0, 3, 0);
        on.answers(none, 127, "place", 0);
        none.told(0, 3, 1);
        on.answers(none, 0, "place", 0);
        on.answers(Due.court("", "010d"), 1023, "place", 0);
        on.answers(none, 0, "deed", 0, 1);
    }

    private static void placeRefused() {
        for (int d : new int[] {-1, 2, Edges.LEAST_INT, Edges.MOST_INT}) {
            on.bad(ToldEdgesTest::knockAndDoor, "place", d);
        }
        on.bad(() -> Due.court("000w", ""), "place", 0);
        on.bad(() -> Due.court("000w", EIGHT_DOORS), "place", 8);
        on.answers(Due.court("000w", EIGHT_DOORS), 1023, "place", 7);
    }

    private static void ask() {
        // 0 and 1 hear nothing, so both DEEDS are alike to them; to 2 and 3 they are not.
        on.answers(Due.court("900w;900w;000w;000w", "000d;060k"), 2, "ask");
        on.answers(Due.court("900w;900w;900w;900w;900w;900w;900w;000w", "000d;060k"), 7, "ask");
        on.answers(Due.court("900w;900w", "000d;060k"), 0, "ask");
        on.answers(Due.court("000w;900w", "000d;060k"), 0, "ask");
        // One DEED is as many to each.
        on.answers(Due.court("900w;000w", "000d"), 0, "ask");
        // Of eight like ones 0 and 1 have as many; by one unlike it is seven.
        on.answers(Due.court("900w;000w", EIGHT_DOORS), 0, "ask");
        on.answers(Due.court("900w;000w", EIGHT_DOORS.substring(0, 34) + ";420k"), 1, "ask");
    }

    private static void askNone() {
        on.answers(new SleptWitness(), Due.NONE, "ask");
        on.answers(Due.court("", "000d;060k"), Due.NONE, "ask");
        on.answers(Due.court("900w;000w", ""), 0, "ask");
        // No DEED is left that may never have been: 0 of them to each.
        SleptWitness x = Due.court("900w;000w", "000d;060k");
        x.told(1, 3, 8);
        on.answers(x, 0, "never");
        on.answers(x, 0, "ask");
    }

    // ---- FEIGN, COURT

    private static void fraction(SleptWitness x, int c, long above, long below) {
        on.answers(x, above, "feign", c, 0, 0);
        on.answers(x, below, "feign", c, 0, 1);
    }

    private static SleptWitness byProof(int proof, String sleepers) {
        SleptWitness x = Due.court(sleepers, "010d");
        x.law(2, proof);
        return x;
    }

    private static void feignEnds() {
        fraction(byProof(2, "000w;000w"), 0, 1, 1);
        fraction(byProof(2, "000w;000w"), 16, 0, 1);
        fraction(byProof(2, "000w;000w"), 1, 225, 256);
        fraction(byProof(2, "000w;000w"), 15, 1, 256);
        fraction(byProof(1, "000w"), 1, 15, 16);
        fraction(byProof(1, "000w"), 15, 1, 16);
        // Not PROVEN even if no one feigns; insomniacs, and who hears nothing, do not count.
        fraction(byProof(2, "000w;000i;900w"), 0, 0, 1);
        fraction(byProof(8, "000w;000w;000w;000w;000w;000w;000w"), 0, 0, 1);
        fraction(byProof(8, EIGHT_WATCHMEN), 0, 1, 1);
        fraction(byProof(1, EIGHT_WATCHMEN), 16, 0, 1);
        fraction(byProof(1, ""), 0, 0, 1);
        fraction(byProof(1, ""), 16, 0, 1);
    }

    private static void lowestTerms() {
        fraction(byProof(1, "000w"), 8, 1, 2);
        fraction(byProof(1, "000w"), 4, 3, 4);
        fraction(byProof(1, "000w"), 2, 7, 8);
        fraction(byProof(1, "000w"), 12, 1, 4);
        fraction(byProof(2, "000w;000w"), 12, 1, 16);
        fraction(byProof(3, "000w;000w"), 8, 0, 1);
        fraction(byProof(8, EIGHT_WATCHMEN), 8, 1, 256);
        fraction(byProof(8, EIGHT_WATCHMEN), 12, 1, 65536);
        // What is below may be more than an int: 16 to the power of 8.
        fraction(byProof(8, EIGHT_WATCHMEN), 15, 1, 4294967296L);
        fraction(byProof(8, EIGHT_WATCHMEN), 1, 2562890625L, 4294967296L);
        fraction(byProof(1, EIGHT_WATCHMEN), 1, 4294967295L, 4294967296L);
        // Who hears nothing makes no term greater.
        fraction(byProof(1, "000w;900w;900w"), 8, 1, 2);
    }

    private static void feignRefused() {
        int[][] wrong = {{-1, 0, 0}, {17, 0, 0}, {0, -1, 0}, {0, 2, 0}, {0, 0, -1}, {0, 0, 2}};
        for (int[] w : wrong) {
            on.refuses(ToldEdgesTest::knockAndDoor, Due.LONG_BAD, "feign", w);
        }
        for (int wild : WILD) {
            on.refuses(ToldEdgesTest::knockAndDoor, Due.LONG_BAD, "feign", wild, 0, 0);
            on.refuses(ToldEdgesTest::knockAndDoor, Due.LONG_BAD, "feign", 0, wild, 0);
            on.refuses(ToldEdgesTest::knockAndDoor, Due.LONG_BAD, "feign", 0, 0, wild);
        }
        on.refuses(() -> Due.court("000w", ""), Due.LONG_BAD, "feign", 0, 0, 0);
        on.refuses(() -> Due.court("000w", EIGHT_DOORS), Due.LONG_BAD, "feign", 0, 8, 0);
        on.answers(Due.court("000w", EIGHT_DOORS), 1, "feign", 16, 7, 1);
    }

    private static void leastLong() {
        on.answers(new SleptWitness(), -9223372036854775806L, "feign", 0, 0, 0);
    }

    /** The DEEDS of a SEED as a text, by numbers that do not wrap of themselves. */
    private static String lots(int seed, int n) {
        BigInteger now = BigInteger.valueOf(seed);
        StringBuilder text = new StringBuilder();
        for (int d = 0; d < n; d++) {
            int[] lot = {50, 10, 4};
            for (int k = 0; k < 3; k++) {
                now = now.multiply(BigInteger.valueOf(1103515245)).add(BigInteger.valueOf(12345)).mod(BigInteger.ONE.shiftLeft(32));
                lot[k] = now.shiftRight(16).mod(BigInteger.valueOf(lot[k])).intValue();
            }
            text.append(d == 0 ? "" : ";").append(lot[0] / 10).append(lot[0] % 10).append(lot[1]).append("kvfd".charAt(lot[2]));
        }
        return text.toString();
    }

    private static void courtBy(int seed, int n) {
        courtAs(seed, n, lots(seed, n));
    }

    private static void courtAs(int seed, int n, String deeds) {
        String sleepers = "300y;412o;402w;201i;513y;600o;733w";
        SleptWitness told = Due.court(sleepers, deeds);
        SleptWitness x = Due.court(sleepers, EIGHT_DOORS);
        on.answers(x, told.count(4), "court", seed, n, 0);
        on.answers(x, told.count(5), "court", seed, n, 1);
        on.alike("the DEEDS that are told stay", x, Due.court(sleepers, EIGHT_DOORS));
    }

    private static void courtOfEach() {
        for (int n = 1; n <= 8; n++) {
            courtBy(1, n);
            courtBy(7, n);
        }
        for (int n : new int[] {0, 9, -1, Edges.LEAST_INT, Edges.MOST_INT}) {
            on.bad(ToldEdgesTest::knockAndDoor, "court", 1, n, 0);
        }
        on.answers(new SleptWitness(), 0, "court", 1, 8, 0);
        on.answers(new SleptWitness(), 0, "court", 1, 8, 1);
        on.answers(Due.court("300i;400i", ""), 0, "court", 1, 8, 1);
    }

    private static void courtWraps() {
        for (int seed : new int[] {0, -1, Edges.LEAST_INT, Edges.MOST_INT, 1103515245, -12345}) {
            courtBy(seed, 1);
            courtBy(seed, 8);
        }
    }

    /** SEEDS that are below 0 as ints, so that their upper halves would be, too. */
    private static void courtUpperBits() {
        // 0 becomes 12345, 3554416254, 2802067423, of which the upper halves are 0, 54236, 42756.
        courtAs(0, 1, "006k");
        // -1 becomes 3191464396, 288979989, 646343466: 48697, 4409, 9862.
        courtAs(-1, 1, "479f");
        courtAs(Edges.LEAST_INT, 8, "188k;176d;131f;281k;096d;436v;129k;413d");
        courtAs(Edges.MOST_INT, 8, "297f;181f;303k;021v;036v;067f;377v;042f");
        int below = 0;
        for (int seed = 2; below < 12 && seed < 1000; seed++) {
            if (1103515245 * seed + 12345 < 0) {
                courtBy(seed, 1);
                below++;
            }
        }
    }

    private static void courtRefused() {
        int[][] wrong = {{1, 1, -1}, {1, 1, 2}, {0, 0, 0}, {0, 9, 1}, {1, 8, Edges.LEAST_INT}, {1, 8, Edges.MOST_INT}};
        for (int[] w : wrong) {
            on.bad(ToldEdgesTest::knockAndDoor, "court", w);
            on.bad(SleptWitness::new, "court", w);
        }
    }
}
