/** The boundary cases of promises 15 to 18: QUIET, MOVE, NEED, FEED. The rows are by hand. */
public final class PlansEdgesTest {
    private static final String EIGHT_DOORS = "000d;060d;120d;180d;240d;300d;360d;420d";
    private static final int[] WILD = {Edges.LEAST_INT, Edges.MOST_INT};

    private static final Edges on = new Edges();

    public static void main(String[] args) {
        on.edge(15, "QUIET: how many (i = NONE)", PlansEdgesTest::quietHowMany);
        on.edge(15, "the i-th (0 to 49; NONE)", PlansEdgesTest::quietIth);
        on.edge(15, "HOURS in which such a DEED, told behind all others, would not be PROVEN", PlansEdgesTest::quietBehindOthers);
        on.edge(15, "QUIET for a HOUSE and a sound (0 k, 1 v, 2 f, 3 d)", PlansEdgesTest::quietRefused);
        on.edge(15, "NOT: there are 8 DEEDS already", PlansEdgesTest::quietEight);
        on.edge(15, "BAD; NOT: there are 8 DEEDS already", PlansEdgesTest::quietBoth);
        on.edge(16, "the HOUSE (0 to 9), in place of its own, by which most DEEDS are PROVEN", PlansEdgesTest::moveEnds);
        on.edge(16, "by which most DEEDS are PROVEN, of like ones the least: which; how many", PlansEdgesTest::moveLikeOnes);
        on.edge(16, "MOVE: which (what = 0), how many (1). BAD.", PlansEdgesTest::moveRefused);
        on.edge(17, "the fewest SLEEPERS (0 to 2) that had better not be there", PlansEdgesTest::needFewest);
        on.edge(17, "of like ones the least row (each more than the one ahead)", PlansEdgesTest::needLeastRow);
        on.edge(17, "NEED: how many (i = NONE), the i-th (0, 1; NONE); NONE. BAD.", PlansEdgesTest::needRefused);
        on.edge(18, "the SUPPER (0 to 3), in place of its own, by which it TESTIFIES to most DEEDS", PlansEdgesTest::feedEnds);
        on.edge(18, "by which it TESTIFIES to most DEEDS, of like ones the least", PlansEdgesTest::feedLikeOnes);
        on.edge(18, "FEED: which (what = 0), to how many (1). BAD.", PlansEdgesTest::feedRefused);
        on.end("PlansEdgesTest", 15, 18);
    }

    private static SleptWitness some() {
        return Due.court("500w;900w", "015d");
    }

    private static SleptWitness eight() {
        return Due.court("000w;000w;000w;000w;000w;000w;000w;000w", EIGHT_DOORS);
    }

    private static SleptWitness byProof(int proof, String sleepers, String deeds) {
        SleptWitness x = Due.court(sleepers, deeds);
        x.law(2, proof);
        return x;
    }

    private static SleptWitness lax(String sleepers, String deeds) {
        return byProof(1, sleepers, deeds);
    }

    // ---- QUIET

    private static void quietHowMany() {
        on.answers(new SleptWitness(), 50, "quiet", 0, 0, Due.NONE);
        on.answers(lax("", "000k"), 50, "quiet", 9, 3, Due.NONE);
        on.answers(lax("000w", ""), 0, "quiet", 0, 3, Due.NONE);
        // 2 away the door is 1 LOUD, 3 away it is not heard.
        on.answers(lax("200w", ""), 0, "quiet", 0, 3, Due.NONE);
        on.answers(lax("300w", ""), 50, "quiet", 0, 3, Due.NONE);
        // Just as many as PROOF, and one less.
        on.answers(byProof(2, "000w;000w", ""), 0, "quiet", 0, 3, Due.NONE);
        on.answers(byProof(3, "000w;000w", ""), 50, "quiet", 0, 3, Due.NONE);
        on.answers(byProof(8, "000w;000w;000w;000w;000w;000w;000w;000w", ""), 0, "quiet", 0, 3, Due.NONE);
        on.answers(byProof(8, "000w;000w;000w;000w;000w;000w;000w", ""), 50, "quiet", 0, 3, Due.NONE);
    }

    private static void quietIth() {
        SleptWitness all = new SleptWitness();
        for (int i = 0; i < 50; i++) {
            on.answers(all, i, "quiet", 0, 0, i);
        }
        SleptWitness none = lax("000w", "");
        on.answers(none, Due.NONE, "quiet", 0, 3, 0);
        on.answers(none, Due.NONE, "quiet", 0, 3, 49);
        // A voice wakes a watchman in the first HOUR of six: 0, 6, .. 48.
        SleptWitness nine = lax("000w", "");
        on.answers(nine, 9, "quiet", 0, 1, Due.NONE);
        on.answers(nine, 0, "quiet", 0, 1, 0);
        on.answers(nine, 48, "quiet", 0, 1, 8);
        on.answers(nine, Due.NONE, "quiet", 0, 1, 9);
        on.answers(nine, Due.NONE, "quiet", 0, 1, 49);
        // In bed from 1 on: 0, 1, 7, .. 49.
        SleptWitness ten = lax("010w", "");
        on.answers(ten, 10, "quiet", 0, 1, Due.NONE);
        on.answers(ten, 49, "quiet", 0, 1, 9);
        on.answers(ten, Due.NONE, "quiet", 0, 1, 10);
        for (int wild : WILD) {
            on.bad(PlansEdgesTest::some, "quiet", 0, 0, wild);
        }
        on.bad(PlansEdgesTest::some, "quiet", 0, 0, -2);
        on.bad(PlansEdgesTest::some, "quiet", 0, 0, 50);
    }

    private static void rowOf(SleptWitness x, int... hours) {
        on.answers(x, hours.length, "quiet", 0, 3, Due.NONE);
        for (int i = 0; i < hours.length; i++) {
            on.answers(x, hours[i], "quiet", 0, 3, i);
        }
        on.answers(x, Due.NONE, "quiet", 0, 3, hours.length);
    }

    private static void quietBehindOthers() {
        // The knock of HOUR 1 is told ahead, so the door of HOUR 1 is heard AWAKE.
        rowOf(lax("000w", "010k"), 1, 2, 3);
        rowOf(lax("000w", "000k"), 0, 1, 2);
        rowOf(lax("000w", "490f"), 49);
        rowOf(lax("000w", "480f"), 48, 49);
        // By SINCE 9 the ninth HOUR behind it counts, the tenth does not.
        SleptWitness x = lax("000w", "010k");
        x.law(1, 9);
        rowOf(x, 1, 2, 3, 4, 5, 6, 7, 8, 9, 10);
        SleptWitness late = lax("000w", "450f");
        late.law(1, 9);
        rowOf(late, 45, 46, 47, 48, 49);
        // A MARK that is told ahead takes nothing from it.
        rowOf(lax("000w", "010d"));
        on.answers(x, 1, "count", 1);
    }

    private static void quietRefused() {
        for (int sound = 0; sound < 4; sound++) {
            on.answers(new SleptWitness(), 50, "quiet", 0, sound, Due.NONE);
            on.answers(new SleptWitness(), 50, "quiet", 9, sound, Due.NONE);
        }
        on.bad(PlansEdgesTest::some, "quiet", -1, 0, 0);
        on.bad(PlansEdgesTest::some, "quiet", 10, 0, 0);
        on.bad(PlansEdgesTest::some, "quiet", 0, -1, 0);
        on.bad(PlansEdgesTest::some, "quiet", 0, 4, 0);
        for (int wild : WILD) {
            on.bad(PlansEdgesTest::some, "quiet", wild, 0, 0);
            on.bad(PlansEdgesTest::some, "quiet", 0, wild, 0);
        }
    }

    private static void quietEight() {
        on.refuses(PlansEdgesTest::eight, Due.NOT, "quiet", 0, 0, Due.NONE);
        on.refuses(PlansEdgesTest::eight, Due.NOT, "quiet", 9, 3, 49);
        on.refuses(() -> Due.court("", EIGHT_DOORS), Due.NOT, "quiet", 0, 0, 0);
        SleptWitness seven = lax("000w", EIGHT_DOORS.substring(0, 34));
        on.answers(seven, 7, "count", 1);
        on.answers(seven, 0, "quiet", 0, 3, Due.NONE);
        // Eight with a FAULT are none.
        on.answers(Due.court("", EIGHT_DOORS.substring(0, 38)), 50, "quiet", 0, 0, Due.NONE);
    }

    private static void quietBoth() {
        int[][] wrong = {{-1, 0, 0}, {10, 0, 0}, {0, -1, 0}, {0, 4, 0}, {0, 0, -2}, {0, 0, 50}};
        for (int[] w : wrong) {
            on.bad(PlansEdgesTest::eight, "quiet", w);
        }
    }

    // ---- MOVE

    private static void moves(SleptWitness x, int sleeper, int which, int many) {
        on.answers(x, which, "move", sleeper, 0);
        on.answers(x, many, "move", sleeper, 1);
    }

    private static void moveEnds() {
        // In 9 both are MARKS; in 8 and 7 the knock wakes; in 1 to 3 the knock alone is one.
        moves(lax("000w", "009d;006k"), 0, 9, 2);
        // The same street seen from the other end.
        moves(lax("900w", "000d;003k"), 0, 0, 2);
        moves(lax("500w", EIGHT_DOORS), 0, 0, 8);
        // Behind 9 both would be MARKS, and ahead of 0: but there is no HOUSE.
        moves(lax("000w", "009v;007k"), 0, 2, 1);
        moves(lax("000w", "000v;002k"), 0, 5, 1);
        // In each HOUSE it lies down in the HOUR of its own BEDTIME, by its own SUPPER, of its own kind.
        moves(lax("490w", "080d;090d"), 0, 0, 1);
        moves(lax("003y", "030f"), 0, 0, 1);
        moves(lax("000y", "020f"), 0, 1, 1);
        SleptWitness x = eight();
        moves(x, 7, 0, 8);
        on.answers(x, 0, "sleeper", 7, 0);
    }

    private static void moveLikeOnes() {
        // 3 to 7 hear the door in 5.
        moves(some(), 1, 3, 1);
        moves(lax("500w", "015d"), 0, 3, 1);
        moves(lax("700w", "015d"), 0, 3, 1);
        // None does, so all are alike.
        moves(some(), 0, 0, 0);
        moves(lax("900i", "015d"), 0, 0, 0);
        moves(lax("900w", ""), 0, 0, 0);
    }

    private static void moveRefused() {
        int[][] wrong = {{-1, 0}, {2, 0}, {0, -1}, {0, 2}};
        for (int[] w : wrong) {
            on.bad(PlansEdgesTest::some, "move", w);
        }
        for (int wild : WILD) {
            on.bad(PlansEdgesTest::some, "move", wild, 0);
            on.bad(PlansEdgesTest::some, "move", 0, wild);
        }
        on.bad(PlansEdgesTest::eight, "move", 8, 0);
        on.bad(() -> Due.court("", "015d"), "move", 0, 0);
    }

    // ---- NEED

    private static void needs(SleptWitness x, int... row) {
        on.answers(x, row.length, "need", 0, Due.NONE);
        on.answers(x, row.length > 0 ? row[0] : Due.NONE, "need", 0, 0);
        on.answers(x, row.length > 1 ? row[1] : Due.NONE, "need", 0, 1);
    }

    private static void needNone(SleptWitness x) {
        for (int i = -1; i <= 1; i++) {
            on.answers(x, Due.NONE, "need", 0, i);
        }
    }

    private static void needFewest() {
        // Not PROVEN: no one need be away.
        needs(lax("", "010d"));
        needs(byProof(2, "000w;900w", "010d"));
        needs(byProof(8, "", "010d"));
        needs(byProof(8, "000w;000w", "010d"));
        needs(byProof(8, "000w;000w;000w;000w;000w;000w;000w", "010d"));
        // As many as PROOF, one more, and two more.
        needs(byProof(2, "000w;000w", "010d"), 0);
        needs(byProof(2, "000w;000w;000w", "010d"), 0, 1);
        needNone(byProof(2, "000w;000w;000w;000w", "010d"));
        needs(lax("000w", "010d"), 0);
        needs(lax("000w;000w", "010d"), 0, 1);
        needNone(lax("000w;000w;000w", "010d"));
        SleptWitness x = eight();
        x.law(2, 8);
        needs(x, 0);
        x.law(2, 7);
        needs(x, 0, 1);
        x.law(2, 6);
        needNone(x);
        x.law(2, 1);
        needNone(x);
    }

    private static void needLeastRow() {
        needs(lax("900w;900w;900w;900w;900w;900w;900w;000w", "010d"), 7);
        needs(lax("900w;900w;900w;900w;900w;900w;000w;000w", "010d"), 6, 7);
        needs(byProof(2, "900w;000w;900w;900w;000w;900w;900w;000w", "010d"), 1, 4);
        needs(byProof(2, "900w;900w;000i;000w;000w", "010d"), 3);
    }

    private static void needRefused() {
        int[][] wrong = {{-1, 0}, {1, 0}, {0, -2}, {0, 2}};
        for (int[] w : wrong) {
            on.bad(PlansEdgesTest::some, "need", w);
        }
        for (int wild : WILD) {
            on.bad(PlansEdgesTest::some, "need", wild, 0);
            on.bad(PlansEdgesTest::some, "need", 0, wild);
        }
        on.bad(PlansEdgesTest::eight, "need", 8, 0);
        on.bad(() -> Due.court("000w", ""), "need", 0, Due.NONE);
        on.answers(lax("000w", EIGHT_DOORS), 0, "need", 7, 0);
    }

    // ---- FEED

    private static void feeds(SleptWitness x, int sleeper, int which, int many) {
        on.answers(x, which, "feed", sleeper, 0);
        on.answers(x, many, "feed", sleeper, 1);
    }

    private static void feedEnds() {
        // By 0 it is WOKEN (2 DEEP, 5 LOUD) and 7 DEEP in HOUR 6; by more it is 5 DEEP at most there, and WOKEN.
        feeds(Due.court("003y", "001k;060f;060f;060f"), 0, 0, 3);
        // By 1 it is WOKEN in HOUR 0 and 7 DEEP in 5; by 0 6, by 2 5, by 3 6, which is too little.
        feeds(Due.court("000y", "000k;050f;050f;050f"), 0, 1, 3);
        // By 2 it is WOKEN in HOUR 0 and 5 DEEP in 5; by 0 3, by 1 4, by 3 3.
        feeds(Due.court("000o", "000v;052f;052f;052f"), 0, 2, 3);
        // By 3 it is 5 DEEP, so that 7 LOUD do not wake it.
        feeds(Due.court("000y", "000k;002f"), 0, 3, 2);
        // By each SUPPER it lies down in its own HOUSE in the HOUR of its own BEDTIME.
        feeds(Due.court("090w", "080d;090d"), 0, 0, 1);
        feeds(Due.court("700w", "010d;015d"), 0, 0, 1);
        SleptWitness x = eight();
        feeds(x, 7, 0, 8);
        SleptWitness own = Due.court("003y", "001k;060f;060f;060f");
        own.feed(0, 0);
        on.answers(own, 3, "sleeper", 0, 2);
    }

    private static void feedLikeOnes() {
        feeds(Due.court("003w", "010d"), 0, 0, 1);
        feeds(Due.court("003i", "010d"), 0, 0, 0);
        feeds(Due.court("903w", "010d"), 0, 0, 0);
        feeds(Due.court("003w", ""), 0, 0, 0);
        // By 2 and by 3 a knock does not wake it.
        feeds(Due.court("000y", "000k"), 0, 2, 1);
        feeds(Due.court("003y", "000k"), 0, 2, 1);
    }

    private static void feedRefused() {
        int[][] wrong = {{-1, 0}, {2, 0}, {0, -1}, {0, 2}};
        for (int[] w : wrong) {
            on.bad(PlansEdgesTest::some, "feed", w);
        }
        for (int wild : WILD) {
            on.bad(PlansEdgesTest::some, "feed", wild, 0);
            on.bad(PlansEdgesTest::some, "feed", 0, wild);
        }
        on.bad(PlansEdgesTest::eight, "feed", 8, 0);
        on.bad(() -> Due.court("", "015d"), "feed", 0, 0);
    }
}
