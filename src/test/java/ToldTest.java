import java.util.function.Supplier;

/** Promises 19 to 26: TOLD, NEVER, PLACE, ASK, FEIGN, COURT. The rows are by hand. */
public final class ToldTest {
    private static final Due due = new Due();

    public static void main(String[] args) {
        told();
        forget();
        read();
        readWrong();
        never();
        place();
        ask();
        feign();
        feignWrong();
        court();
        due.end("ToldTest");
    }

    /** The knock wakes, so the door in the next HOUR is heard AWAKE. */
    private static SleptWitness knockAndDoor() {
        return Due.court("000w", "000k;010d");
    }

    private static SleptWitness eightTold() {
        SleptWitness x = knockAndDoor();
        for (int n = 1; n <= 8; n++) {
            x.told(0, 0, 0);
        }
        return x;
    }

    private static void told() {
        SleptWitness x = knockAndDoor();
        for (int n = 1; n <= 8; n++) {
            due.is("told, the " + n, x.told(n - 1, n % 4, n), n);
        }
        due.is("count(7)", x.count(7), 8);
        due.refused("told(0, 0, 0), eight", ToldTest::eightTold, y -> y.told(0, 0, 0), Due.FULL);
        due.refused("told(8, 0, 0), eight: BAD is ahead", ToldTest::eightTold, y -> y.told(8, 0, 0), Due.BAD);
        int[][] wrong = {{-1, 0, 0}, {8, 0, 0}, {0, -1, 0}, {0, 4, 0}, {0, 0, -1}, {0, 0, 9},
            {Integer.MIN_VALUE, 0, 0}, {0, Integer.MAX_VALUE, 0}, {0, 0, Integer.MIN_VALUE}};
        for (int[] w : wrong) {
            due.refused("told(" + w[0] + ", " + w[1] + ", " + w[2] + ")", ToldTest::knockAndDoor, y -> y.told(w[0], w[1], w[2]), Due.BAD);
        }
        due.is("told of one that there is not", new SleptWitness().told(7, 3, 8), 1);
    }

    private static void forget() {
        SleptWitness x = eightTold();
        due.is("forget()", x.forget(), 8);
        due.is("forget() again", x.forget(), 0);
        due.is("count(7) after forget()", x.count(7), 0);
        due.is("told after forget()", x.told(0, 0, 0), 1);
        due.is("never() by what is left", x.never(), 3);
        x.wipe(0);
        due.is("TOLD stays without SLEEPERS", x.count(7), 1);
        due.is("one that there is not: never", x.never(), 0);
    }

    private static SleptWitness withSheet(int form, int size, int... items) {
        SleptWitness x = knockAndDoor();
        x.sheet(2, form, size);
        for (int i = 0; i < items.length; i++) {
            x.put(2, form, i, items[i]);
        }
        return x;
    }

    private static void reads(String what, SleptWitness x, int want) {
        int had = x.count(7);
        due.is("read(2): " + what, x.read(2), want);
        due.is("count(7), then: " + what, x.count(7), had + want);
    }

    private static void read() {
        reads("no items", withSheet(0, 0), 0);
        reads("two items", withSheet(0, 2, 0, 3), 0);
        reads("three items", withSheet(0, 3, 0, 3, 1), 1);
        reads("five items", withSheet(1, 5, 0, 3, 1, 0, 0), 1);
        reads("six items", withSheet(2, 6, 0, 3, 1, 7, 3, 8), 2);
        reads("the second may not be", withSheet(2, 9, 0, 3, 1, 8, 0, 0, 0, 0, 0), 1);
        reads("the first may not be", withSheet(0, 9, 0, 4, 1), 0);
        reads("below 0", withSheet(0, 6, 0, 0, 0, 0, 0, -1), 1);
        reads("a byte that was cut", withSheet(0, 3, 256, 259, 257), 1);
        reads("more than eight", withSheet(2, 60), 8);
        SleptWitness two = withSheet(2, 60);
        two.told(0, 0, 0);
        two.told(0, 0, 0);
        reads("two were told", two, 6);
        reads("eight were told", two, 0);
        SleptWitness same = withSheet(0, 3, 0, 3, 1);
        same.read(2);
        due.is("never() by what was read", same.never(), 1);
        due.is("the SHEET stays", same.get(2, 0, 1), 3);
        same.read(2);
        due.is("read behind what was told", same.count(7), 2);
    }

    private static void readWrong() {
        due.refused("read(-1)", ToldTest::knockAndDoor, y -> y.read(-1), Due.BAD);
        due.refused("read(4)", ToldTest::knockAndDoor, y -> y.read(4), Due.BAD);
        due.found("read(2), LOST", ToldTest::knockAndDoor, y -> y.read(2), Due.NULL, 1);
        due.found("read(2), LOST, eight told", ToldTest::eightTold, y -> y.read(2), Due.NULL, 1);
    }

    private static void neverBy(Supplier<SleptWitness> maker, int sleeper, int sound, int n, int want) {
        SleptWitness x = maker.get();
        x.told(sleeper, sound, n);
        due.is("never() by told(" + sleeper + ", " + sound + ", " + n + ")", x.never(), want);
    }

    private static void never() {
        due.is("never() by nothing", knockAndDoor().never(), 3);
        due.is("never() without DEEDS", Due.court("000w", "").never(), 0);
        due.is("never() without SLEEPERS", Due.court("", "000k;010d").never(), 3);
        // Without the knock the door makes a MARK.
        neverBy(ToldTest::knockAndDoor, 0, 3, 1, 1);
        neverBy(ToldTest::knockAndDoor, 0, 3, 0, 2);
        neverBy(ToldTest::knockAndDoor, 0, 3, 2, 0);
        neverBy(ToldTest::knockAndDoor, 0, 0, 0, 3);
        neverBy(ToldTest::knockAndDoor, 0, 1, 1, 0);
        neverBy(ToldTest::knockAndDoor, 1, 0, 0, 0);
        SleptWitness x = Due.court("000w;200w", "000d;060d;062d");
        x.told(0, 3, 2);
        due.is("never() by the first", x.never(), 7);
        x.told(1, 3, 2);
        due.is("never() by both", x.never(), 7);
        x.told(0, 3, 3);
        due.is("never() by what can't be", x.never(), 0);
        // MARKS count, testimony does not.
        SleptWitness marks = Due.court("000w", "000d;060d");
        marks.law(0, 9);
        marks.told(0, 3, 1);
        due.is("never() by MARKS that do not TESTIFY", marks.never(), 3);
        SleptWitness all = Due.court("000w", "000d;060d;120d;180d;240d;300d;360d;420d");
        all.told(0, 3, 7);
        due.is("never() of eight", all.never(), 255);
    }

    private static void place() {
        SleptWitness x = knockAndDoor();
        due.is("place(0) by nothing", x.place(0), 1023);
        due.is("place(1) by nothing", x.place(1), 1023);
        x.told(0, 3, 1);
        due.is("place(0): from 3 on it does not wake", x.place(0), 1023 - 7);
        due.is("place(1)", x.place(1), 0);
        x.told(0, 0, 1);
        due.is("place(0): 3 to 5 make a MARK", x.place(0), 8 + 16 + 32);
        due.is("place leaves the DEED", x.deed(0, 1), 0);
        x.told(1, 0, 0);
        due.is("place(0) by one that there is not", x.place(0), 0);
        SleptWitness ends = Due.court("900w", "019d");
        ends.told(0, 3, 1);
        due.is("place(0) at the end", ends.place(0), 512 + 256 + 128);
        due.is("place(0) without SLEEPERS", Due.court("", "019d").place(0), 1023);
        int[] wrong = {-1, 2, Integer.MIN_VALUE, Integer.MAX_VALUE};
        for (int w : wrong) {
            due.refused("place(" + w + ")", ToldTest::knockAndDoor, y -> y.place(w), Due.BAD);
        }
    }

    private static void ask() {
        due.is("ask() without SLEEPERS", Due.court("", "000d;060k").ask(), Due.NONE);
        due.is("ask() without DEEDS", Due.court("000w;000w", "").ask(), 0);
        // 0 hears nothing (2 alike), 1 has a MARK of the door alone (1 alike).
        due.is("ask()", Due.court("900w;000w", "000d;060k").ask(), 1);
        due.is("ask(), of like ones the least", Due.court("900w;000w;000w", "000d;060k").ask(), 1);
        due.is("ask(), all alike", Due.court("900w;900w", "000d;060k").ask(), 0);
        // Three DEEDS: 1 parts them 2 by 1, 0 not at all.
        due.is("ask(), 2 by 1", Due.court("900w;000w", "000d;060d;120k").ask(), 1);
        SleptWitness x = Due.court("900w;000w", "000d;060d;120k");
        x.told(1, 3, 1);
        // Left are the two doors, of which both know as much.
        due.is("never(), then", x.never(), 3);
        due.is("ask() about those alone", x.ask(), 0);
        x.told(1, 3, 5);
        due.is("ask() about none", x.ask(), 0);
    }

    private static void fraction(String what, SleptWitness x, int c, long above, long below) {
        due.is(what + " by " + c + ": above", x.feign(c, 0, 0), above);
        due.is(what + " by " + c + ": below", x.feign(c, 0, 1), below);
    }

    private static void feign() {
        SleptWitness two = Due.court("000w;900w;000w;000i", "010d");
        fraction("two of two", two, 0, 1, 1);
        fraction("two of two", two, 8, 1, 4);
        fraction("two of two", two, 5, 121, 256);
        fraction("two of two", two, 12, 1, 16);
        fraction("two of two", two, 16, 0, 1);
        two.law(2, 1);
        fraction("one of two", two, 8, 3, 4);
        fraction("one of two", two, 1, 255, 256);
        two.law(2, 3);
        fraction("three of two", two, 0, 0, 1);
        fraction("three of two", two, 8, 0, 1);
        SleptWitness eight = Due.court("000w;000w;000w;000w;000w;000w;000w;000w", "010d");
        fraction("two of eight", eight, 0, 1, 1);
        eight.law(2, 1);
        fraction("one of eight", eight, 5, 4294967296L - 390625L, 4294967296L);
        eight.law(2, 8);
        fraction("eight of eight", eight, 15, 1, 4294967296L);
        fraction("eight of eight", eight, 1, 2562890625L, 4294967296L);
        eight.law(2, 4);
        // 1 - (1 + 8 + 28 + 56) / 256
        fraction("four of eight", eight, 8, 163, 256);
        fraction("without SLEEPERS", Due.court("", "010d"), 4, 0, 1);
    }

    private static void feignWrong() {
        int[][] wrong = {{-1, 0, 0}, {17, 0, 0}, {0, -1, 0}, {0, 2, 0}, {0, 0, -1}, {0, 0, 2},
            {Integer.MIN_VALUE, 0, 0}, {0, Integer.MAX_VALUE, 0}, {0, 0, Integer.MAX_VALUE}};
        for (int[] w : wrong) {
            due.refused("feign(" + w[0] + ", " + w[1] + ", " + w[2] + ")", ToldTest::knockAndDoor, y -> y.feign(w[0], w[1], w[2]), Due.LONG_BAD);
        }
    }

    /** The DEEDS of a SEED as a text. */
    private static String lots(int seed, int n) {
        StringBuilder text = new StringBuilder();
        int now = seed;
        for (int d = 0; d < n; d++) {
            int[] lot = {50, 10, 4};
            for (int k = 0; k < 3; k++) {
                now = now * 1103515245 + 12345;
                lot[k] = (now >> 16 & 0xffff) % lot[k];
            }
            text.append(d == 0 ? "" : ";").append(lot[0] / 10).append(lot[0] % 10).append(lot[1]).append("kvfd".charAt(lot[2]));
        }
        return text.toString();
    }

    private static void court() {
        String sleepers = "300y;412o;402w;201i;513y;600o;733w";
        int[] seeds = {0, 1, 7, -1, 12345, Integer.MIN_VALUE, Integer.MAX_VALUE, -987654321};
        for (int seed : seeds) {
            for (int n = 1; n <= 8; n++) {
                SleptWitness told = Due.court(sleepers, lots(seed, n));
                SleptWitness other = Due.court(sleepers, "000k;010d");
                due.is("court(" + seed + ", " + n + ", 0)", other.court(seed, n, 0), told.count(4));
                due.is("court(" + seed + ", " + n + ", 1)", other.court(seed, n, 1), told.count(5));
                due.is("court leaves the DEEDS", other.count(1), 2);
            }
        }
        int[][] wrong = {{0, 0}, {9, 0}, {1, -1}, {1, 2}, {-1, 0}, {Integer.MIN_VALUE, 0}, {Integer.MAX_VALUE, 0}, {1, Integer.MAX_VALUE}};
        for (int[] w : wrong) {
            due.refused("court(1, " + w[0] + ", " + w[1] + ")", ToldTest::knockAndDoor, y -> y.court(1, w[0], w[1]), Due.BAD);
        }
        due.is("court without SLEEPERS", new SleptWitness().court(5, 8, 1), 0);
    }
}
