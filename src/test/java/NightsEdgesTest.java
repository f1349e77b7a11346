/** The boundary cases of promises 9 to 14: how DEEP, what becomes of a DEED, who TESTIFIES. The rows are by hand. */
public final class NightsEdgesTest {
    private static final int NOTHING = 0, AWAKE = 1, WOKEN = 2, MARK = 3;
    private static final int[] WILD = {Edges.LEAST_INT, Edges.MOST_INT};

    private static final Edges on = new Edges();

    public static void main(String[] args) {
        depths();
        fates();
        testimonies();
        ofAll();
        on.end("NightsEdgesTest", 9, 14);
    }

    private static void depths() {
        on.edge(9, "HOURS are 0 to 49", NightsEdgesTest::hours);
        on.edge(9, "A SLEEPER lies down in the HOUR of its BEDTIME", NightsEdgesTest::bedtime);
        on.edge(9, "1, 3, 5, 6, 4, 2 DEEP, and so on, from the first one again", NightsEdgesTest::fromTheFirst);
        on.edge(9, "a young one 1 more", NightsEdgesTest::young);
        on.edge(9, "an old one 2 less (1 at least)", NightsEdgesTest::old);
        on.edge(9, "a watchman 3 at most", NightsEdgesTest::watchman);
        on.edge(9, "an insomniac never sleeps: it is 0 DEEP, as who does not lie yet, or is awake", NightsEdgesTest::insomniac);
        on.edge(9, "How DEEP a SLEEPER sleeps in an HOUR (ahead of its DEEDS)", NightsEdgesTest::aheadOfDeeds);
        on.edge(9, "and in the next two; in the one behind these it lies down anew", NightsEdgesTest::liesDownAnew);
        on.edge(9, "How DEEP it sleeps. BAD.", NightsEdgesTest::depthRefused);
    }

    private static void fates() {
        on.edge(10, "(in the same one just as LOUD; 0 at least)", NightsEdgesTest::loud);
        on.edge(10, "Of 0 it hears nothing", NightsEdgesTest::nothing);
        on.edge(10, "Else, if it is 0 DEEP, it hears it AWAKE", NightsEdgesTest::awake);
        on.edge(10, "if it is LOUD there by 3 or more than it sleeps DEEP, it is WOKEN", NightsEdgesTest::byThree);
        on.edge(10, "it is awake in that HOUR from then on", NightsEdgesTest::fromThenOn);
        on.edge(10, "In each HOUR DEEDS of that HOUR, as told", NightsEdgesTest::asTold);
        on.edge(10, "what becomes of it (1), whether it TESTIFIES (2). BAD.", NightsEdgesTest::hearsRefused);
    }

    private static void testimonies() {
        on.edge(10, "sleeps LEAST DEEP or deeper then", NightsEdgesTest::least);
        on.edge(10, "is not WOKEN in that HOUR (also later in it)", NightsEdgesTest::laterInIt);
        on.edge(10, "nor was in as many HOURS ahead of it as SINCE", NightsEdgesTest::since);
        on.edge(11, "if as many as PROOF, or more, TESTIFY to it", NightsEdgesTest::asManyAsProof);
        on.edge(11, "Who TESTIFIES, as bits (what = 0)", NightsEdgesTest::bits);
        on.edge(11, "how many it LACKS (0: PROVEN)", NightsEdgesTest::lacks);
        on.edge(11, "whether it is PROVEN (1: 1, 0), how many it LACKS (2). BAD.", NightsEdgesTest::proofRefused);
    }

    private static void ofAll() {
        on.edge(12, "how many times it is WOKEN", NightsEdgesTest::wakings);
        on.edge(12, "to how many DEEDS it TESTIFIES (1)", NightsEdgesTest::testifiesTo);
        on.edge(12, "to how many DEEDS it TESTIFIES (1). BAD.", NightsEdgesTest::nightsRefused);
        on.edge(13, "the SLEEPER that TESTIFIES to most DEEDS, of like ones the least; NONE", NightsEdgesTest::best);
        on.edge(14, "the first DEED, as told, that all SLEEPERS hear AWAKE, or are WOKEN by; NONE", NightsEdgesTest::byAll);
    }

    private static SleptWitness some() {
        return Due.court("000w;300y", "000k;020f;030k");
    }

    private static SleptWitness eight() {
        return Due.court(Edges.EIGHT_SLEEPERS, Edges.EIGHT_DEEDS);
    }

    private static void row(SleptWitness x, int first, int... want) {
        for (int k = 0; k < want.length; k++) {
            on.answers(x, want[k], "depth", first + k, 0);
        }
    }

    // ---- how DEEP

    private static void hours() {
        SleptWitness x = Due.court("000y;090y", "");
        on.answers(x, 2, "depth", 0, 0);
        on.answers(x, 4, "depth", 49, 0);
        on.answers(x, 0, "depth", 0, 1);
        // HOUR 49 is the 41st since it lay down in 9: 40 modulo 6 is 4.
        on.answers(x, 5, "depth", 49, 1);
        on.bad(NightsEdgesTest::some, "depth", -1, 0);
        on.bad(NightsEdgesTest::some, "depth", 50, 0);
    }

    private static void bedtime() {
        for (int bedtime = 0; bedtime <= 9; bedtime++) {
            SleptWitness x = Due.court("0" + bedtime + "0y", "");
            for (int hour = 0; hour < bedtime; hour++) {
                on.answers(x, 0, "depth", hour, 0);
            }
            on.answers(x, 2, "depth", bedtime, 0);
            on.answers(x, 4, "depth", bedtime + 1, 0);
        }
    }

    private static void fromTheFirst() {
        int[] deep = {2, 4, 6, 7, 5, 3};
        SleptWitness x = Due.court("000y", "");
        for (int hour = 0; hour < 50; hour++) {
            on.answers(x, deep[hour % 6], "depth", hour, 0);
        }
    }

    private static void young() {
        row(Due.court("000y", ""), 0, 2, 4, 6, 7, 5, 3, 2);
        row(Due.court("003y", ""), 0, 5, 7, 9, 10, 8, 6, 5);
    }

    private static void old() {
        row(Due.court("000o", ""), 0, 1, 1, 3, 4, 2, 1, 1);
        row(Due.court("001o", ""), 0, 1, 2, 4, 5, 3, 1, 1);
        row(Due.court("002o", ""), 0, 1, 3, 5, 6, 4, 2, 1);
        row(Due.court("003o", ""), 0, 2, 4, 6, 7, 5, 3, 2);
    }

    private static void watchman() {
        row(Due.court("000w", ""), 0, 1, 3, 3, 3, 3, 2, 1);
        row(Due.court("001w", ""), 0, 2, 3, 3, 3, 3, 3, 2);
        row(Due.court("002w", ""), 0, 3, 3, 3, 3, 3, 3, 3);
        row(Due.court("003w", ""), 0, 3, 3, 3, 3, 3, 3, 3);
    }

    private static void insomniac() {
        SleptWitness x = Due.court("003i", "000k;100f");
        for (int hour = 0; hour < 50; hour++) {
            on.answers(x, 0, "depth", hour, 0);
        }
        on.answers(x, AWAKE, "hears", 0, 0, 1);
        row(Due.court("023y", ""), 0, 0, 0, 5);
        row(Due.court("003w", "000k"), 0, 3, 0, 0, 3);
    }

    private static void aheadOfDeeds() {
        row(Due.court("000w", "000k"), 0, 1, 0);
        row(Due.court("000w", "490f"), 48, 1, 3);
        // Told ahead of the one that comes first.
        row(Due.court("000w", "030d;000k"), 0, 1, 0, 0, 1);
        // In the HOUR in which it lies down anew it is WOKEN again.
        row(Due.court("000w", "000k;030k"), 0, 1, 0, 0, 1, 0, 0, 1, 3);
    }

    private static void liesDownAnew() {
        row(Due.court("000y", "000f"), 0, 2, 0, 0, 2, 4, 6, 7, 5, 3, 2);
        row(Due.court("090y", "090f"), 8, 0, 2, 0, 0, 2, 4);
        // The night's end: 46, 47, 48 and 49 (of a watchman 4, 5, 0 and 1 HOURS behind the first).
        row(Due.court("000w", "460f"), 46, 3, 0, 0, 1);
        row(Due.court("000w", "470f"), 46, 3, 2, 0, 0);
        row(Due.court("000w", "480f"), 46, 3, 2, 1, 0);
        row(Due.court("000w", "490f"), 46, 3, 2, 1, 3);
        // What it hears AWAKE in the two HOURS does not keep it up.
        row(Due.court("000w", "000k;010f;020f"), 0, 1, 0, 0, 1);
    }

    private static void depthRefused() {
        on.bad(SleptWitness::new, "depth", 0, 0);
        on.bad(NightsEdgesTest::some, "depth", 0, -1);
        on.bad(NightsEdgesTest::some, "depth", 0, 2);
        on.bad(NightsEdgesTest::eight, "depth", 49, 8);
        on.answers(eight(), 0, "depth", 49, 7);
        for (int wild : WILD) {
            on.bad(NightsEdgesTest::some, "depth", wild, 0);
            on.bad(NightsEdgesTest::some, "depth", 0, wild);
        }
    }

    // ---- what becomes of a DEED

    private static void loudIn(int sleeper, String deed, int want) {
        on.answers(Due.court(sleeper + "00w", deed), want, "hears", 0, 0, 0);
    }

    private static void loud() {
        String sounds = "kvfd";
        int[] loud = {6, 4, 9, 3};
        for (int sound = 0; sound < 4; sound++) {
            for (int away = 0; away <= 9; away++) {
                int want = away < loud[sound] ? loud[sound] - away : 0;
                loudIn(away, "000" + sounds.charAt(sound), want);
                loudIn(0, "00" + away + sounds.charAt(sound), want);
                loudIn(9, "00" + (9 - away) + sounds.charAt(sound), want);
            }
        }
    }

    private static void fate(String sleeper, String deed, int want) {
        on.answers(Due.court(sleeper, deed), want, "hears", 0, 0, 1);
    }

    private static void nothing() {
        fate("600w", "000k", NOTHING);
        fate("500w", "000k", MARK);
        fate("400w", "000v", NOTHING);
        fate("300w", "000v", MARK);
        fate("900w", "000f", NOTHING);
        fate("800w", "000f", MARK);
        fate("300w", "000d", NOTHING);
        fate("200w", "000d", MARK);
        // Of 0 an insomniac hears nothing, either, nor does who is not yet in bed.
        fate("300i", "000d", NOTHING);
        fate("200i", "000d", AWAKE);
        fate("390w", "000d", NOTHING);
        fate("900w", "000d", NOTHING);
    }

    private static void awake() {
        fate("000i", "000f", AWAKE);
        fate("800i", "000f", AWAKE);
        fate("090y", "080d", AWAKE);
        fate("090y", "090d", MARK);
        fate("000i", "490d", AWAKE);
    }

    private static void byThree() {
        // 1 DEEP: by 2, 3 and 4 more.
        fate("000w", "000d", MARK);
        fate("000w", "000v", WOKEN);
        fate("000w", "001k", WOKEN);
        // 6 DEEP: as LOUD, by 2 and 3 more.
        fate("000y", "020k", MARK);
        fate("000y", "021f", MARK);
        fate("000y", "020f", WOKEN);
        // LOUD by less than it is DEEP, also by 9 less.
        fate("003y", "030f", MARK);
        fate("003y", "038f", MARK);
        fate("800y", "020f", MARK);
        // 3 DEEP: by 2, 3 and 6 more.
        fate("002w", "001k", MARK);
        fate("002w", "000k", WOKEN);
        fate("002w", "000f", WOKEN);
    }

    private static void fatesOf(String sleeper, String deeds, int... want) {
        SleptWitness x = Due.court(sleeper, deeds);
        for (int d = 0; d < want.length; d++) {
            on.answers(x, want[d], "hears", d, 0, 1);
        }
    }

    private static void fromThenOn() {
        fatesOf("000w", "000d;000k;000d;000f", MARK, WOKEN, AWAKE, AWAKE);
        fatesOf("000w", "000k;010f;020f;030f", WOKEN, AWAKE, AWAKE, WOKEN);
        fatesOf("000w", "490d;490f;490d", MARK, WOKEN, AWAKE);
    }

    private static void asTold() {
        fatesOf("000w", "000k;000d", WOKEN, AWAKE);
        fatesOf("000w", "000d;000k", MARK, WOKEN);
        fatesOf("000w", "030d;000d;020d;000k;010d", MARK, MARK, AWAKE, WOKEN, AWAKE);
        fatesOf("000w", "490d;480d;470d;460d;450d;440d;430d;000k", MARK, MARK, MARK, MARK, MARK, MARK, MARK, WOKEN);
        fatesOf("000w", "000d;000d;000d;000d;000d;000d;000d;000k", MARK, MARK, MARK, MARK, MARK, MARK, MARK, WOKEN);
        fatesOf("000w", "000k;000d;000d;000d;000d;000d;000d;000k", WOKEN, AWAKE, AWAKE, AWAKE, AWAKE, AWAKE, AWAKE, AWAKE);
    }

    private static void hearsRefused() {
        int[][] wrong = {{-1, 0, 0}, {3, 0, 0}, {0, -1, 0}, {0, 2, 0}, {0, 0, -1}, {0, 0, 3}};
        for (int[] w : wrong) {
            on.bad(NightsEdgesTest::some, "hears", w);
        }
        for (int wild : WILD) {
            on.bad(NightsEdgesTest::some, "hears", wild, 0, 0);
            on.bad(NightsEdgesTest::some, "hears", 0, wild, 0);
            on.bad(NightsEdgesTest::some, "hears", 0, 0, wild);
        }
        on.bad(() -> Due.court("000w", ""), "hears", 0, 0, 0);
        on.bad(() -> Due.court("", "000k"), "hears", 0, 0, 0);
        on.answers(eight(), 3, "hears", 7, 7, 0);
        for (int d = 0; d < 8; d++) {
            // The last door is out of hearing.
            SleptWitness x = Due.court("000w", "000d;060d;120d;180d;240d;300d;360d;429d");
            on.answers(x, d < 7 ? MARK : NOTHING, "hears", d, 0, 1);
            on.answers(x, d < 7 ? 1 : 0, "hears", d, 0, 2);
        }
        on.bad(NightsEdgesTest::eight, "hears", 8, 7, 0);
        on.bad(NightsEdgesTest::eight, "hears", 7, 8, 0);
    }

    // ---- who TESTIFIES

    private static SleptWitness byLaw(SleptWitness x, int least, int since, int proof) {
        x.law(0, least);
        x.law(1, since);
        x.law(2, proof);
        return x;
    }

    private static void testifies(String sleeper, String deeds, int least, int since, int want) {
        on.answers(byLaw(Due.court(sleeper, deeds), least, since, 2), want, "hears", 0, 0, 2);
    }

    private static void least() {
        testifies("000w", "000d", 0, 0, 1);
        testifies("000w", "000d", 1, 0, 1);
        testifies("000w", "000d", 2, 0, 0);
        // 8, 9 and 10 DEEP by the greatest LEAST.
        testifies("003y", "040d", 9, 0, 0);
        testifies("003y", "020d", 9, 0, 1);
        testifies("003y", "030d", 9, 0, 1);
        // By 0, too, only who has a MARK.
        testifies("000i", "000d", 0, 0, 0);
        testifies("300w", "000d", 0, 0, 0);
        testifies("000w", "000k", 0, 0, 0);
    }

    private static void laterInIt() {
        testifies("000w", "000d;000k", 0, 0, 0);
        testifies("000w", "000d;000d;000k", 0, 0, 0);
        testifies("000w", "490d;490f", 0, 0, 0);
        // WOKEN once more behind it, it was WOKEN in it all the same.
        testifies("000w", "000d;000k;030k", 0, 0, 0);
        testifies("000w", "000d;010f", 0, 0, 1);
        testifies("000w", "000d;010f", 0, 9, 1);
        testifies("000w", "480d;490f", 0, 9, 1);
        // A DEED of 0 LOUD, or a MARK more, is no waking.
        testifies("000w", "000d;009d", 0, 0, 1);
        testifies("000w", "000d;000d", 0, 0, 1);
    }

    private static void since() {
        testifies("000w", "030d;000k", 1, 0, 1);
        testifies("000w", "030d;000k", 1, 2, 1);
        testifies("000w", "030d;000k", 1, 3, 0);
        testifies("000w", "030d;000k", 1, 9, 0);
        testifies("000w", "080d;000k", 1, 9, 0);
        testifies("000w", "090d;000k", 1, 8, 1);
        testifies("000w", "090d;000k", 1, 9, 0);
        testifies("000w", "100d;000k", 1, 9, 1);
        testifies("000w", "490d;400f", 1, 9, 0);
        testifies("000w", "490d;390f", 1, 9, 1);
        testifies("000w", "490d;460f", 1, 2, 1);
        testifies("000w", "490d;460f", 1, 3, 0);
        // Of two wakings ahead the one in reach counts; one behind does not make the other undone.
        testifies("000w", "090d;000k;030k", 1, 5, 1);
        testifies("000w", "090d;000k;030k", 1, 6, 0);
        testifies("000w", "040d;000k;060k", 1, 4, 0);
        testifies("000w", "040d;000k;060k", 1, 3, 1);
        // There is nothing ahead of HOUR 0.
        testifies("000w", "000d", 1, 9, 1);
        testifies("000w", "010d", 1, 9, 1);
    }

    /** So many watchmen that TESTIFY to a door in HOUR 1, and one that does not hear it. */
    private static SleptWitness watchmen(int many, int proof) {
        return byLaw(Due.court("000w;".repeat(many) + "900w", "010d"), 1, 2, proof);
    }

    private static SleptWitness eightWatchmen(int proof) {
        return byLaw(Due.court("000w;000w;000w;000w;000w;000w;000w;000w", "010d"), 1, 2, proof);
    }

    private static void asManyAsProof() {
        for (int proof = 1; proof <= 6; proof++) {
            on.answers(watchmen(proof - 1, proof), 0, "proof", 0, 1);
            on.answers(watchmen(proof, proof), 1, "proof", 0, 1);
            on.answers(watchmen(proof + 1, proof), 1, "proof", 0, 1);
        }
        on.answers(watchmen(7, 8), 0, "proof", 0, 1);
        on.answers(eightWatchmen(8), 1, "proof", 0, 1);
        on.answers(eightWatchmen(7), 1, "proof", 0, 1);
        on.answers(eightWatchmen(1), 1, "proof", 0, 1);
        on.answers(byLaw(Due.court("", "010d"), 1, 2, 1), 0, "proof", 0, 1);
    }

    private static void bits() {
        on.answers(Due.court("", "010d"), 0, "proof", 0, 0);
        on.answers(watchmen(0, 1), 0, "proof", 0, 0);
        on.answers(watchmen(1, 1), 1, "proof", 0, 0);
        on.answers(watchmen(7, 1), 127, "proof", 0, 0);
        on.answers(eightWatchmen(2), 255, "proof", 0, 0);
        on.answers(Due.court("900w;900w;900w;900w;900w;900w;900w;000w", "010d"), 128, "proof", 0, 0);
        on.answers(Due.court("000w", "000d;060d;120d;180d;240d;300d;360d;420d"), 1, "proof", 7, 0);
    }

    private static void lacks() {
        on.answers(watchmen(0, 8), 8, "proof", 0, 2);
        on.answers(Due.court("", "010d"), 2, "proof", 0, 2);
        on.answers(watchmen(7, 8), 1, "proof", 0, 2);
        on.answers(eightWatchmen(8), 0, "proof", 0, 2);
        // More than enough is not below 0.
        on.answers(eightWatchmen(1), 0, "proof", 0, 2);
        on.answers(watchmen(0, 1), 1, "proof", 0, 2);
        on.answers(watchmen(1, 1), 0, "proof", 0, 2);
    }

    private static void proofRefused() {
        int[][] wrong = {{-1, 0}, {3, 0}, {0, -1}, {0, 3}};
        for (int[] w : wrong) {
            on.bad(NightsEdgesTest::some, "proof", w);
        }
        for (int wild : WILD) {
            on.bad(NightsEdgesTest::some, "proof", wild, 0);
            on.bad(NightsEdgesTest::some, "proof", 0, wild);
        }
        on.bad(() -> Due.court("000w", ""), "proof", 0, 0);
        on.bad(NightsEdgesTest::eight, "proof", 8, 0);
    }

    // ---- of one SLEEPER, of all

    private static void wakings() {
        on.answers(Due.court("000w", ""), 0, "nights", 0, 0);
        on.answers(Due.court("000i", "000k;030k"), 0, "nights", 0, 0);
        on.answers(Due.court("000w", "000k;000k;010k;020k"), 1, "nights", 0, 0);
        on.answers(Due.court("000w", "000k;030k;060k;090k;120k;150k;180k;210k"), 8, "nights", 0, 0);
        on.answers(Due.court("000w", "210k;180k;150k;120k;090k;060k;030k;000k"), 8, "nights", 0, 0);
    }

    private static void testifiesTo() {
        on.answers(Due.court("000w", ""), 0, "nights", 0, 1);
        on.answers(Due.court("000i", "000d"), 0, "nights", 0, 1);
        on.answers(Due.court("000w", "000d;060d;120d;180d;240d;300d;360d;420d"), 8, "nights", 0, 1);
        on.answers(Due.court("000w", "000d;000d;000d;000d;000d;000d;000d;000d"), 8, "nights", 0, 1);
        on.answers(Due.court("000w", "000d;000d;000d;000d;000d;000d;000d;000k"), 0, "nights", 0, 1);
    }

    private static void nightsRefused() {
        int[][] wrong = {{-1, 0}, {2, 0}, {0, -1}, {0, 2}};
        for (int[] w : wrong) {
            on.bad(NightsEdgesTest::some, "nights", w);
        }
        for (int wild : WILD) {
            on.bad(NightsEdgesTest::some, "nights", wild, 0);
            on.bad(NightsEdgesTest::some, "nights", 0, wild);
        }
        on.bad(() -> Due.court("", "000k"), "nights", 0, 0);
        on.bad(NightsEdgesTest::eight, "nights", 8, 0);
    }

    private static void best() {
        on.answers(new SleptWitness(), Due.NONE, "best");
        on.answers(Due.court("", "010d"), Due.NONE, "best");
        on.answers(Due.court("000w;000w", ""), 0, "best");
        on.answers(Due.court("900w;000i", "010d"), 0, "best");
        on.answers(eightWatchmen(2), 0, "best");
        on.answers(Due.court("900w;900w;900w;900w;900w;900w;900w;000w", "010d"), 7, "best");
        on.answers(Due.court("900w;900w;900w;900w;900w;900w;000w;000w", "010d"), 6, "best");
        // One DEED more is enough.
        on.answers(Due.court("000w;200w", "010d;070d;074d"), 1, "best");
    }

    private static void byAll() {
        on.answers(new SleptWitness(), Due.NONE, "byAll");
        on.answers(Due.court("000i", ""), Due.NONE, "byAll");
        on.answers(Due.court("", "000k"), Due.NONE, "byAll");
        on.answers(Due.court("000i", "000d"), 0, "byAll");
        on.answers(Due.court("000w", "000k"), 0, "byAll");
        on.answers(Due.court("000i;000i;000i;000i;000i;000i;000i;000w", "000k"), 0, "byAll");
        on.answers(Due.court("000i;000i;000i;000i;000i;000i;000i;000w", "000d"), Due.NONE, "byAll");
        on.answers(Due.court("000i;000i;000i;000i;000i;000i;000i;900i", "000d"), Due.NONE, "byAll");
        on.answers(Due.court("000w;000i;000i;000i;000i;000i;000i;000i", "000d"), Due.NONE, "byAll");
        on.answers(Due.court("900i;000i;000i;000i;000i;000i;000i;000i", "000d"), Due.NONE, "byAll");
        on.answers(Due.court("000i;000i;000i;000w;000i;000i;000i;000i", "000d;000k"), 1, "byAll");
        on.answers(Due.court("000i;000w", "000d;060d;120d;180d;240d;300d;360d;420k"), 7, "byAll");
        // The first as told, not the first that comes.
        on.answers(Due.court("000i;000w", "420d;360k;300k"), 1, "byAll");
    }
}
