/** The boundary cases of promises 1 to 8: a new object, the texts, SLEEPERS, DEEDS, the law. */
public final class TextsEdgesTest {
    private static final String[] EIGHT = {Edges.EIGHT_SLEEPERS, Edges.EIGHT_DEEDS};
    /** The bytes with which a text can go on, by the place in its unit. */
    private static final String[][] MAY = {
        {"0123456789", "0123456789", "0123", "yowi", ";"},
        {"01234", "0123456789", "0123456789", "kvfd", ";"},
    };
    private static final int[] BESIDE = {-1, 2, Edges.LEAST_INT, Edges.MOST_INT};

    private static final Edges on = new Edges();

    public static void main(String[] args) {
        on.edge(1, "No SLEEPERS, no DEEDS", TextsEdgesTest::nothingAtFirst);
        on.edge(1, "all SHEETS are LOST", TextsEdgesTest::lostAtFirst);
        on.edge(1, "LEAST (0 to 9; 1 at first)", () -> on.answers(new SleptWitness(), 1, "law", 0, 0));
        on.edge(1, "SINCE (0 to 9; 2 at first)", () -> on.answers(new SleptWitness(), 2, "law", 1, 0));
        on.edge(1, "PROOF (1 to 8; 2 at first)", () -> on.answers(new SleptWitness(), 2, "law", 2, 1));
        on.edge(1, "the number of the latest FINDING (0 before any)", () -> on.answers(new SleptWitness(), 0, "count", 8));
        on.edge(1, "An object is used for at most 512 calls after it has been made", TextsEdgesTest::lastCall);
        on.edge(2, "A byte (0 to 255) comes behind a text", TextsEdgesTest::bytes);
        on.edge(2, "SLEEPERS are a text of up to 39 bytes (text 0)", () -> full(0));
        on.edge(2, "DEEDS are a text of up to 39 bytes (text 1)", () -> full(1));
        on.edge(2, "how many. BAD; FULL.", TextsEdgesTest::typeRefused);
        on.edge(3, "A text is empty: how many bytes it had. BAD.", TextsEdgesTest::wipe);
        on.edge(4, "The last byte of a text is undone: how many are left.", TextsEdgesTest::undo);
        on.edge(4, "NOT: it is empty", TextsEdgesTest::undoEmpty);
        on.edge(5, "an empty one is well", TextsEdgesTest::emptyIsWell);
        on.edge(5, "of one that is not ended, its end", TextsEdgesTest::notEnded);
        on.edge(5, "the place of the first byte with which it cannot go on", TextsEdgesTest::firstByte);
        on.edge(5, "a figure 0 to 3, its SUPPER, and y (young), o (old), w (a watchman) or i (an insomniac)", () -> allBytes(0));
        on.edge(5, "a figure 0 to 4 and a figure, the HOUR (00 to 49), a figure, the HOUSE (0 to 9) and k (a knock), v (a voice),"
            + " f (a fall) or d (a door)", () -> allBytes(1));
        on.edge(5, "here also of the first byte of a ninth", TextsEdgesTest::ninth);
        on.edge(5, "The FAULT of a text; NONE. BAD.", TextsEdgesTest::faultRefused);
        on.edge(5, "With a FAULT a text is as if it was empty", TextsEdgesTest::faultyTexts);
        on.edge(6, "8 at most (0 on), with ; between them: a figure, the HOUSE in which it lies", TextsEdgesTest::sleepers);
        on.edge(6, "of a SLEEPER. BAD.", TextsEdgesTest::sleeperRefused);
        on.edge(7, "8 at most (0 on), with ; between them: a figure 0 to 4", TextsEdgesTest::deeds);
        on.edge(7, "of a DEED. BAD.", TextsEdgesTest::deedRefused);
        on.edge(8, "LEAST (0 to 9", () -> lawFrom(0, 0, 9));
        on.edge(8, "SINCE (0 to 9", () -> lawFrom(1, 0, 9));
        on.edge(8, "PROOF (1 to 8", () -> lawFrom(2, 1, 8));
        on.edge(8, "LEAST (what = 0), SINCE (1), PROOF (2): what it was. BAD.", TextsEdgesTest::lawRefused);
        on.end("TextsEdgesTest", 1, 8);
    }

    private static SleptWitness two() {
        return Due.court("300y;412o", "033k;479d");
    }

    private static SleptWitness eight() {
        return Due.court(Edges.EIGHT_SLEEPERS, Edges.EIGHT_DEEDS);
    }

    private static void nothingAtFirst() {
        SleptWitness x = new SleptWitness();
        for (int what = 0; what <= 7; what++) {
            on.answers(x, 0, "count", what);
        }
        on.answers(x, Due.BAD, "sleeper", 0, 0);
        on.answers(x, Due.BAD, "deed", 0, 0);
        on.answers(x, Due.BAD, "depth", 0, 0);
        on.answers(x, Due.BAD, "proof", 0, 0);
    }

    private static void lostAtFirst() {
        for (int s = 0; s < 4; s++) {
            on.finds(SleptWitness::new, 1, "lose", s);
            on.finds(SleptWitness::new, 1, "get", s, 0, 0);
            on.finds(SleptWitness::new, 1, "put", s, 0, 0, 0);
            on.finds(SleptWitness::new, 1, "copy", s, 0, s, 0, 0);
            on.finds(SleptWitness::new, 1, "read", s);
        }
    }

    private static void lastCall() {
        SleptWitness x = new SleptWitness();
        Due.type(x, 0, Edges.EIGHT_SLEEPERS);
        Due.type(x, 1, Edges.EIGHT_DEEDS);
        for (int calls = 2 * 39; calls < 511; calls++) {
            x.digest();
        }
        on.answers(x, eight().digest(), "digest");
    }

    private static void bytes() {
        for (int text = 0; text < 2; text++) {
            SleptWitness x = new SleptWitness();
            on.answers(x, 1, "type", text, 0);
            on.answers(x, 2, "type", text, 255);
            on.answers(x, 2, "count", 2 + text);
            on.answers(x, 0, "count", 3 - text);
            on.bad(TextsEdgesTest::two, "type", text, -1);
            on.bad(TextsEdgesTest::two, "type", text, 256);
            on.bad(TextsEdgesTest::two, "type", text, Edges.LEAST_INT);
            on.bad(TextsEdgesTest::two, "type", text, Edges.MOST_INT);
            // A byte of 256 and '3' would be a figure, if it was cut.
            on.bad(SleptWitness::new, "type", text, 256 + '3');
        }
    }

    private static void full(int text) {
        SleptWitness x = new SleptWitness();
        for (int n = 1; n <= 39; n++) {
            on.answers(x, n, "type", text, EIGHT[text].charAt(n - 1));
        }
        on.answers(x, 8, "count", text);
        on.answers(x, Due.FULL, "type", text, ';');
        on.answers(x, 39, "count", 2 + text);
        on.answers(x, 1, "type", 1 - text, '0');
        on.answers(x, 38, "undo", text);
        on.answers(x, 39, "type", text, EIGHT[text].charAt(38));
        on.answers(x, 8, "count", text);
    }

    private static void typeRefused() {
        for (int text = 0; text < 2; text++) {
            on.refuses(TextsEdgesTest::eight, Due.FULL, "type", text, 0);
            on.refuses(TextsEdgesTest::eight, Due.FULL, "type", text, 255);
            // BAD and FULL would both fit.
            on.bad(TextsEdgesTest::eight, "type", text, -1);
            on.bad(TextsEdgesTest::eight, "type", text, 256);
        }
        for (int beside : BESIDE) {
            on.bad(TextsEdgesTest::two, "type", beside, '0');
            on.bad(TextsEdgesTest::eight, "type", beside, '0');
        }
    }

    private static void wipe() {
        for (int text = 0; text < 2; text++) {
            SleptWitness x = eight();
            on.answers(x, 39, "wipe", text);
            on.answers(x, 0, "wipe", text);
            on.answers(x, 0, "count", text);
            on.answers(x, 0, "count", 2 + text);
            on.answers(x, 8, "count", 1 - text);
            on.answers(x, 1, "type", text, 0);
            on.answers(x, 1, "wipe", text);
            on.answers(x, Due.NONE, "fault", text);
            on.answers(new SleptWitness(), 0, "wipe", text);
        }
        for (int beside : BESIDE) {
            on.bad(TextsEdgesTest::two, "wipe", beside);
            on.bad(SleptWitness::new, "wipe", beside);
        }
    }

    private static void undo() {
        for (int text = 0; text < 2; text++) {
            SleptWitness x = eight();
            for (int left = 38; left >= 0; left--) {
                on.answers(x, left, "undo", text);
                on.answers(x, left % 5 == 4 ? (left + 1) / 5 : 0, "count", text);
            }
            on.answers(x, 8, "count", 1 - text);
        }
        for (int beside : BESIDE) {
            on.bad(TextsEdgesTest::two, "undo", beside);
        }
    }

    private static void undoEmpty() {
        for (int text = 0; text < 2; text++) {
            int t = text;
            on.refuses(SleptWitness::new, Due.NOT, "undo", text);
            on.refuses(() -> Due.court(t == 0 ? "" : "300y", t == 1 ? "" : "033k"), Due.NOT, "undo", text);
            SleptWitness x = eight();
            x.wipe(text);
            on.answers(x, Due.NOT, "undo", text);
            x.type(text, 7);
            on.answers(x, 0, "undo", text);
            on.answers(x, Due.NOT, "undo", text);
            on.answers(x, 1, "type", text, '0');
        }
        // No such text is BAD, though it has no bytes to undo.
        for (int beside : BESIDE) {
            on.bad(SleptWitness::new, "undo", beside);
        }
    }

    private static void emptyIsWell() {
        for (int text = 0; text < 2; text++) {
            SleptWitness x = new SleptWitness();
            on.answers(x, Due.NONE, "fault", text);
            x.type(text, 'z');
            on.answers(x, 0, "fault", text);
            x.undo(text);
            on.answers(x, Due.NONE, "fault", text);
            Due.type(x, text, "zzz");
            x.wipe(text);
            on.answers(x, Due.NONE, "fault", text);
        }
    }

    private static void notEnded() {
        for (int text = 0; text < 2; text++) {
            SleptWitness x = new SleptWitness();
            for (int n = 1; n <= 39; n++) {
                x.type(text, EIGHT[text].charAt(n - 1));
                on.answers(x, n % 5 == 4 ? Due.NONE : n, "fault", text);
            }
        }
    }

    /** A wrong byte at each place, with all well behind it, with more wrong ones, and with nothing. */
    private static void firstByte() {
        for (int text = 0; text < 2; text++) {
            for (int at = 0; at < 39; at++) {
                String ahead = EIGHT[text].substring(0, at);
                on.answers(of(text, ahead + 'z' + EIGHT[text].substring(at + 1)), at, "fault", text);
                on.answers(of(text, ahead + "zzzzzz".substring(0, Math.min(6, 39 - at))), at, "fault", text);
                on.answers(of(text, ahead + 'z'), at, "fault", text);
            }
        }
    }

    private static SleptWitness of(int text, String bytes) {
        SleptWitness x = new SleptWitness();
        Due.type(x, text, bytes);
        return x;
    }

    /** Each of the 256 bytes at each place of the first unit, and of the last. */
    private static void allBytes(int text) {
        for (int unit = 0; unit < 8; unit += 7) {
            for (int at = 0; at < 5 && 5 * unit + at < 39; at++) {
                for (int first = 0; first < 256; first += 128) {
                    bytesBehind(text, 5 * unit + at, first);
                }
            }
        }
    }

    /** Of 128 bytes alone: three calls for each, and one object has 512. */
    private static void bytesBehind(int text, int place, int first) {
        SleptWitness x = of(text, EIGHT[text].substring(0, place));
        for (int b = first; b < first + 128; b++) {
            x.type(text, b);
            boolean goesOn = MAY[text][place % 5].indexOf((char) b) >= 0;
            int end = place % 5 == 3 ? Due.NONE : place + 1;
            on.answers(x, goesOn ? end : place, "fault", text);
            x.undo(text);
        }
    }

    /** The 39 bytes end with the eighth: neither the ; ahead of a ninth nor its first byte comes into a text. */
    private static void ninth() {
        for (int text = 0; text < 2; text++) {
            SleptWitness x = of(text, EIGHT[text]);
            on.answers(x, Due.NONE, "fault", text);
            on.answers(x, Due.FULL, "type", text, ';');
            on.answers(x, Due.FULL, "type", text, '0');
            on.answers(x, Due.NONE, "fault", text);
            on.answers(x, 8, "count", text);
        }
    }

    private static void faultRefused() {
        for (int beside : BESIDE) {
            on.bad(TextsEdgesTest::two, "fault", beside);
            on.bad(SleptWitness::new, "fault", beside);
        }
    }

    private static void faultyTexts() {
        faultySleepers(Edges.EIGHT_SLEEPERS.substring(0, 38) + 'k');
        faultySleepers(Edges.EIGHT_SLEEPERS.substring(0, 35));
        faultySleepers("z" + Edges.EIGHT_SLEEPERS.substring(1));
        faultyDeeds(Edges.EIGHT_DEEDS.substring(0, 38) + 'y');
        faultyDeeds(Edges.EIGHT_DEEDS.substring(0, 35));
        faultyDeeds("5" + Edges.EIGHT_DEEDS.substring(1));
        SleptWitness x = two();
        x.type(0, ';');
        x.type(1, ';');
        on.answers(x, 0, "count", 0);
        on.answers(x, 0, "count", 1);
        x.undo(0);
        x.undo(1);
        on.alike("mended, it is as it was", x, two());
    }

    private static void faultySleepers(String bytes) {
        SleptWitness x = Due.court(bytes, "000k;010d");
        SleptWitness y = Due.court("", "000k;010d");
        on.answers(x, bytes.length(), "count", 2);
        sameAsEmpty(x, y, new int[][] {{0}, {1}, {4}, {5}, {6}}, "count");
        sameAsEmpty(x, y, new int[][] {{0, 0}, {7, 3}}, "sleeper", "nights", "move", "feed", "write");
        sameAsEmpty(x, y, new int[][] {{0, 0}, {1, 1}, {1, 2}}, "depth", "deed", "proof", "need");
        sameAsEmpty(x, y, new int[][] {{0, 0, 0}, {4, 3, -1}, {5, 1, 1}}, "hears", "quiet", "feign", "court");
        sameAsEmpty(x, y, new int[][] {{}}, "best", "byAll", "never", "ask");
        on.answers(x, Due.BAD, "sleeper", 0, 0);
        on.answers(x, Due.NONE, "best");
        x.told(0, 0, 0);
        on.answers(x, 0, "never");
    }

    private static void faultyDeeds(String bytes) {
        SleptWitness x = Due.court("000w;300y", bytes);
        SleptWitness y = Due.court("000w;300y", "");
        on.answers(x, bytes.length(), "count", 3);
        sameAsEmpty(x, y, new int[][] {{0}, {1}, {4}, {5}, {6}}, "count");
        sameAsEmpty(x, y, new int[][] {{0, 0}, {1, 1}}, "sleeper", "nights", "move", "feed", "depth", "deed", "proof", "need");
        sameAsEmpty(x, y, new int[][] {{0, 0, 0}, {4, 3, -1}, {5, 1, 1}}, "hears", "quiet", "feign", "court");
        sameAsEmpty(x, y, new int[][] {{}}, "best", "byAll", "never", "ask");
        sameAsEmpty(x, y, new int[][] {{0}}, "place");
        on.answers(x, Due.BAD, "deed", 0, 0);
        // There are no 8 DEEDS in it.
        on.answers(x, 50, "quiet", 9, 3, Due.NONE);
    }

    private static void sameAsEmpty(SleptWitness x, SleptWitness y, int[][] rows, String... names) {
        for (String name : names) {
            for (int[] args : rows) {
                on.answers(x, Edges.call(y, name, args), name, args);
            }
        }
    }

    private static void sleepers() {
        SleptWitness ends = Due.court("000y;993i", "");
        int[][] want = {{0, 0, 0, 0}, {9, 9, 3, 3}};
        for (int s = 0; s < 2; s++) {
            for (int what = 0; what < 4; what++) {
                on.answers(ends, want[s][what], "sleeper", s, what);
            }
        }
        SleptWitness x = eight();
        on.answers(x, 0, "sleeper", 0, 0);
        on.answers(x, 9, "sleeper", 7, 0);
        on.answers(x, 6, "sleeper", 6, 0);
        for (int s = 0; s < 8; s++) {
            on.answers(x, s % 4, "sleeper", s, 3);
        }
    }

    private static void sleeperRefused() {
        on.bad(SleptWitness::new, "sleeper", 0, 0);
        for (int beside : new int[] {-1, 8, Edges.LEAST_INT, Edges.MOST_INT}) {
            on.bad(TextsEdgesTest::eight, "sleeper", beside, 0);
        }
        for (int beside : new int[] {-1, 4, Edges.LEAST_INT, Edges.MOST_INT}) {
            on.bad(TextsEdgesTest::eight, "sleeper", 7, beside);
        }
        on.bad(TextsEdgesTest::two, "sleeper", 2, 0);
    }

    private static void deeds() {
        SleptWitness ends = Due.court("", "000k;499d");
        int[][] want = {{0, 0, 0}, {49, 9, 3}};
        for (int d = 0; d < 2; d++) {
            for (int what = 0; what < 3; what++) {
                on.answers(ends, want[d][what], "deed", d, what);
            }
        }
        SleptWitness x = eight();
        on.answers(x, 0, "deed", 0, 0);
        on.answers(x, 49, "deed", 7, 0);
        on.answers(x, 19, "deed", 6, 0);
        for (int d = 0; d < 8; d++) {
            on.answers(x, d % 4, "deed", d, 2);
        }
    }

    private static void deedRefused() {
        on.bad(SleptWitness::new, "deed", 0, 0);
        for (int beside : new int[] {-1, 8, Edges.LEAST_INT, Edges.MOST_INT}) {
            on.bad(TextsEdgesTest::eight, "deed", beside, 0);
        }
        for (int beside : new int[] {-1, 3, Edges.LEAST_INT, Edges.MOST_INT}) {
            on.bad(TextsEdgesTest::eight, "deed", 7, beside);
        }
        on.bad(TextsEdgesTest::two, "deed", 2, 0);
    }

    private static void lawFrom(int what, int low, int high) {
        SleptWitness x = new SleptWitness();
        x.law(what, high);
        on.answers(x, high, "law", what, low);
        on.answers(x, low, "law", what, high);
        on.answers(x, Due.BAD, "law", what, low - 1);
        on.answers(x, Due.BAD, "law", what, high + 1);
        on.answers(x, Due.BAD, "law", what, Edges.LEAST_INT);
        on.answers(x, Due.BAD, "law", what, Edges.MOST_INT);
        on.answers(x, high, "law", what, low);
        on.bad(TextsEdgesTest::two, "law", what, low - 1);
        on.bad(TextsEdgesTest::two, "law", what, high + 1);
        // The other two stay as they were.
        SleptWitness y = new SleptWitness();
        y.law(what, high);
        for (int other = 0; other < 3; other++) {
            if (other != what) {
                on.answers(y, other == 0 ? 1 : 2, "law", other, 5);
            }
        }
    }

    private static void lawRefused() {
        for (int beside : new int[] {-1, 3, Edges.LEAST_INT, Edges.MOST_INT}) {
            on.bad(TextsEdgesTest::two, "law", beside, 1);
        }
        on.bad(TextsEdgesTest::two, "law", 3, 99);
    }
}
