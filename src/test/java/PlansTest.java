/** Promises 15 to 18: QUIET, MOVE, NEED, FEED. The rows are by hand. */
public final class PlansTest {
    private static final Due due = new Due();

    public static void main(String[] args) {
        quietAlone();
        quietBehindOthers();
        quietWrong();
        move();
        moveWrong();
        need();
        needWrong();
        feed();
        feedWrong();
        due.end("PlansTest");
    }

    /** By a PROOF of one. */
    private static SleptWitness lax(String sleepers, String deeds) {
        SleptWitness x = Due.court(sleepers, deeds);
        x.law(2, 1);
        return x;
    }

    private static void hours(String what, SleptWitness x, int sound, int... want) {
        due.is(what + ": how many", x.quiet(0, sound, Due.NONE), want.length);
        for (int i = 0; i < want.length; i++) {
            due.is(what + ": the " + i, x.quiet(0, sound, i), want[i]);
        }
        if (want.length < 50) {
            due.is(what + ": one more", x.quiet(0, sound, want.length), Due.NONE);
            due.is(what + ": the 49th", x.quiet(0, sound, 49), Due.NONE);
        }
    }

    private static void quietAlone() {
        SleptWitness none = Due.court("", "000k");
        due.is("quiet without SLEEPERS", none.quiet(9, 3, Due.NONE), 50);
        due.is("quiet without SLEEPERS, the 49th", none.quiet(9, 3, 49), 49);
        hours("a door by a watchman", lax("000w", ""), 3);
        hours("a voice by a watchman", lax("000w", ""), 1, 0, 6, 12, 18, 24, 30, 36, 42, 48);
        hours("a voice ahead of bed", lax("020w", ""), 1, 0, 1, 2, 8, 14, 20, 26, 32, 38, 44);
        due.is("a door out of hearing", lax("300w", "").quiet(0, 3, Due.NONE), 50);
        due.is("a door just in hearing", lax("200w", "").quiet(0, 3, Due.NONE), 0);
        due.is("one of two needed", Due.court("000w;900w", "").quiet(0, 3, Due.NONE), 50);
        due.is("two of two needed", Due.court("000w;000w", "").quiet(0, 3, Due.NONE), 0);
        SleptWitness deep = lax("000w", "");
        deep.law(0, 3);
        // 1, 3, 3, 3, 3, 2 DEEP: the first and the last of six are too little.
        due.is("a door by LEAST 3", deep.quiet(0, 3, Due.NONE), 17);
        due.is("a door by LEAST 3, the second", deep.quiet(0, 3, 1), 5);
    }

    private static void quietBehindOthers() {
        // Woken in HOUR 1, so the door told behind is heard AWAKE there, and in 2 and 3.
        SleptWitness x = lax("000w", "010k");
        hours("a door behind a knock", x, 3, 1, 2, 3);
        x.law(1, 3);
        hours("a door behind a knock by SINCE 3", x, 3, 1, 2, 3, 4);
        x.law(1, 9);
        hours("a door behind a knock by SINCE 9", x, 3, 1, 2, 3, 4, 5, 6, 7, 8, 9, 10);
        due.is("quiet leaves the DEEDS", x.count(1), 1);
        SleptWitness seven = lax("000w", "010k;499d;499d;499d;499d;499d;499d");
        hours("with seven DEEDS", seven, 3, 1, 2, 3);
    }

    private static void quietWrong() {
        String eight = "000k;000k;000k;000k;000k;000k;000k;000k";
        due.refused("quiet(0, 0, NONE), eight DEEDS", () -> Due.court("000w", eight), y -> y.quiet(0, 0, Due.NONE), Due.NOT);
        due.refused("quiet(0, 0, 0), eight DEEDS", () -> Due.court("000w", eight), y -> y.quiet(0, 0, 0), Due.NOT);
        due.refused("quiet(10, 0, 0): BAD is ahead of NOT", () -> Due.court("000w", eight), y -> y.quiet(10, 0, 0), Due.BAD);
        due.is("eight DEEDS with a FAULT are none", Due.court("", eight.substring(0, 38) + "x").quiet(0, 0, Due.NONE), 50);
        int[][] wrong = {{-1, 0, 0}, {10, 0, 0}, {0, -1, 0}, {0, 4, 0}, {0, 0, -2}, {0, 0, 50}};
        for (int[] w : wrong) {
            due.refused("quiet(" + w[0] + ", " + w[1] + ", " + w[2] + ")", () -> Due.court("000w", "000k"), y -> y.quiet(w[0], w[1], w[2]), Due.BAD);
        }
        for (int wild : Due.WILD) {
            SleptWitness x = Due.court("000w", "000k");
            due.is("quiet(wild, 0, 0)", x.quiet(wild, 0, 0), Due.BAD);
            due.is("quiet(0, wild, 0)", x.quiet(0, wild, 0), Due.BAD);
            due.is("quiet(0, 0, wild)", x.quiet(0, 0, wild), Due.BAD);
        }
    }

    private static void move() {
        SleptWitness x = Due.court("500w;900w", "015d");
        due.is("move(1, 0): 3 to 7 would do", x.move(1, 0), 3);
        due.is("move(1, 1)", x.move(1, 1), 1);
        due.is("move(0, 0): none does", x.move(0, 0), 0);
        due.is("move(0, 1)", x.move(0, 1), 0);
        due.is("move leaves the bed", x.sleeper(1, 0), 9);
        SleptWitness best = lax("000w", "018d;079d;130d");
        // In HOUSE 7 two doors are heard, and in 8 and 9 too.
        due.is("move(0, 0) to the best", best.move(0, 0), 7);
        due.is("move(0, 1) to the best", best.move(0, 1), 2);
        SleptWitness here = lax("400w", "014d");
        due.is("move(0, 0), its own counts among them", here.move(0, 0), 2);
        SleptWitness wakes = lax("000w", "001v");
        // 1 DEEP and woken by 4: only one HOUSE and more away there is a MARK.
        due.is("move(0, 0), not so near", wakes.move(0, 0), 0);
        SleptWitness near = lax("900w", "000v");
        due.is("move(0, 0), one away", near.move(0, 0), 1);
        due.is("move(0, 1), one away", near.move(0, 1), 1);
        due.is("move without DEEDS", Due.court("900w", "").move(0, 0), 0);
    }

    private static void moveWrong() {
        int[][] wrong = {{-1, 0}, {2, 0}, {0, -1}, {0, 2}, {Integer.MIN_VALUE, 0}, {Integer.MAX_VALUE, 0}, {0, Integer.MAX_VALUE}};
        for (int[] w : wrong) {
            due.refused("move(" + w[0] + ", " + w[1] + ")", () -> Due.court("500w;900w", "015d"), y -> y.move(w[0], w[1]), Due.BAD);
        }
    }

    private static void row(String sleepers, int proof, int... want) {
        SleptWitness x = Due.court(sleepers, "010d");
        x.law(2, proof);
        String what = sleepers + " by " + proof + ": need(0, ";
        due.is(what + "NONE)", x.need(0, Due.NONE), want.length);
        due.is(what + "0)", x.need(0, 0), want.length > 0 ? want[0] : Due.NONE);
        due.is(what + "1)", x.need(0, 1), want.length > 1 ? want[1] : Due.NONE);
    }

    private static void need() {
        row("", 1);
        row("900w;000w", 2);
        row("000w;000w", 2, 0);
        row("900w;000w;000w", 2, 1);
        row("000w;900w;000w;000i;000w", 2, 0, 2);
        row("900w;000w;000w;000w", 3, 1);
        row("900w;000w;000w", 1, 1, 2);
        row("000w;000w;000w;000w;000w;000w;000w;000w", 8, 0);
        row("000w;000w;000w;000w;000w;000w;000w;000w", 7, 0, 1);
        SleptWitness many = Due.court("000w;000w;000w;000w", "010d");
        due.is("three needed: need(0, NONE)", many.need(0, Due.NONE), Due.NONE);
        due.is("three needed: need(0, 0)", many.need(0, 0), Due.NONE);
        due.is("three needed: need(0, 1)", many.need(0, 1), Due.NONE);
    }

    private static void needWrong() {
        int[][] wrong = {{-1, 0}, {1, 0}, {0, -2}, {0, 2}, {Integer.MIN_VALUE, 0}, {Integer.MAX_VALUE, 0}, {0, Integer.MIN_VALUE}, {0, Integer.MAX_VALUE}};
        for (int[] w : wrong) {
            due.refused("need(" + w[0] + ", " + w[1] + ")", () -> Due.court("500w;900w", "015d"), y -> y.need(w[0], w[1]), Due.BAD);
        }
    }

    private static void feed() {
        SleptWitness young = Due.court("000y;000w", "000k");
        due.is("feed(0, 0): 4 DEEP it goes on", young.feed(0, 0), 2);
        due.is("feed(0, 1)", young.feed(0, 1), 1);
        due.is("feed(1, 0): a watchman wakes all the same", young.feed(1, 0), 0);
        due.is("feed(1, 1)", young.feed(1, 1), 0);
        due.is("feed leaves the SUPPER", young.sleeper(0, 2), 0);
        SleptWitness like = Due.court("003y", "000d");
        due.is("feed(0, 0), of like ones the least", like.feed(0, 0), 0);
        due.is("feed(0, 1), of like ones the least", like.feed(0, 1), 1);
        SleptWitness deep = Due.court("000y", "000d;000v");
        deep.law(0, 5);
        due.is("feed(0, 0) by LEAST 5", deep.feed(0, 0), 3);
        due.is("feed(0, 1) by LEAST 5", deep.feed(0, 1), 2);
        due.is("feed without DEEDS", Due.court("903w", "").feed(0, 1), 0);
    }

    private static void feedWrong() {
        int[][] wrong = {{-1, 0}, {2, 0}, {0, -1}, {0, 2}, {Integer.MIN_VALUE, 0}, {Integer.MAX_VALUE, 0}, {0, Integer.MIN_VALUE}};
        for (int[] w : wrong) {
            due.refused("feed(" + w[0] + ", " + w[1] + ")", () -> Due.court("500w;900w", "015d"), y -> y.feed(w[0], w[1]), Due.BAD);
        }
    }
}
