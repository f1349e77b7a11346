/** Promises 9 to 14: how DEEP, what becomes of a DEED, who TESTIFIES. The rows are by hand. */
public final class NightsTest {
    private static final Due due = new Due();

    public static void main(String[] args) {
        depthOfKinds();
        depthWoken();
        loudness();
        fates();
        orderOfDeeds();
        testifies();
        proof();
        nights();
        best();
        byAll();
        wrong();
        due.end("NightsTest");
    }

    private static void depths(String sleeper, String deeds, int... want) {
        SleptWitness x = Due.court(sleeper, deeds);
        for (int hour = 0; hour < want.length; hour++) {
            due.is(sleeper + " / " + deeds + ": depth(" + hour + ", 0)", x.depth(hour, 0), want[hour]);
        }
    }

    private static void depthOfKinds() {
        depths("020y", "", 0, 0, 2, 4, 6, 7, 5, 3, 2, 4, 6, 7, 5, 3, 2);
        depths("003y", "", 5, 7, 9, 10, 8, 6, 5);
        depths("000o", "", 1, 1, 3, 4, 2, 1, 1, 1, 3);
        depths("003o", "", 2, 4, 6, 7, 5, 3, 2);
        depths("000w", "", 1, 3, 3, 3, 3, 2, 1);
        depths("001w", "", 2, 3, 3, 3, 3, 3, 2);
        depths("003w", "", 3, 3, 3, 3, 3, 3, 3);
        depths("003i", "", 0, 0, 0, 0, 0, 0, 0);
        depths("091w", "", 0, 0, 0, 0, 0, 0, 0, 0, 0, 2, 3);
        due.is("depth(49, 0)", Due.court("000y", "").depth(49, 0), 4);
        due.is("depth(48, 0)", Due.court("000y", "").depth(48, 0), 2);
    }

    private static void depthWoken() {
        // Woken in HOUR 0 while 1 DEEP (ahead of the DEED), up in 1 and 2, anew in 3.
        depths("000w", "000k", 1, 0, 0, 1, 3, 3, 3, 3, 2, 1, 3);
        // Awake in HOUR 2 it hears the fall without being woken again.
        depths("000w", "000k;020f", 1, 0, 0, 1, 3, 3);
        // Woken in HOUR 3 anew.
        depths("000w", "000k;030k", 1, 0, 0, 1, 0, 0, 1, 3);
        // Of a DEED ahead of its BEDTIME it is not woken.
        depths("030w", "010f;020f", 0, 0, 0, 1, 3, 3, 3, 3, 2, 1);
        // Just lain down in the HOUR of its BEDTIME it is.
        depths("030w", "030f", 0, 0, 0, 1, 0, 0, 1, 3);
        SleptWitness x = Due.court("000w", "480f;490f");
        due.is("depth(48, 0), woken late", x.depth(48, 0), 1);
        due.is("depth(49, 0), woken late", x.depth(49, 0), 0);
    }

    private static void loudness() {
        String[] deeds = {"004k", "004v", "004f", "004d"};
        int[] loud = {6, 4, 9, 3};
        for (int sound = 0; sound < 4; sound++) {
            for (int house = 0; house < 10; house++) {
                SleptWitness x = Due.court(house + "00y", deeds[sound]);
                int want = Math.max(0, loud[sound] - Math.abs(house - 4));
                due.is(deeds[sound] + " LOUD in " + house, x.hears(0, 0, 0), want);
            }
        }
        due.is("a fall from one end to the other", Due.court("900y", "000f").hears(0, 0, 0), 0);
        due.is("a fall from 9 to 1", Due.court("100y", "009f").hears(0, 0, 0), 1);
    }

    private static void fate(String sleeper, String deed, int want) {
        due.is(sleeper + " / " + deed + ": hears(0, 0, 1)", Due.court(sleeper, deed).hears(0, 0, 1), want);
    }

    private static void fates() {
        fate("300w", "000d", 0);
        fate("300i", "000d", 0);
        fate("200w", "000d", 3);
        fate("200i", "000d", 1);
        fate("050w", "040f", 1);
        fate("000w", "000d", 3);
        fate("000w", "000v", 2);
        fate("000w", "001v", 3);
        fate("000w", "010k", 2);
        fate("000w", "011k", 3);
        fate("003y", "000f", 2);
        fate("003y", "010f", 3);
        fate("000y", "030f", 3);
        fate("000o", "030f", 2);
        fate("000o", "030k", 3);
        fate("003w", "490f", 2);
    }

    private static void fatesOf(String sleeper, String deeds, int... want) {
        SleptWitness x = Due.court(sleeper, deeds);
        for (int d = 0; d < want.length; d++) {
            due.is(sleeper + " / " + deeds + ": hears(" + d + ", 0, 1)", x.hears(d, 0, 1), want[d]);
        }
    }

    private static void orderOfDeeds() {
        fatesOf("000w", "000k;000d", 2, 1);
        fatesOf("000w", "000d;000k", 3, 2);
        fatesOf("000w", "010d;000k", 1, 2);
        fatesOf("000w", "030d;020d;010d;000k", 3, 1, 1, 2);
        fatesOf("000w", "000k;000k;009d", 2, 1, 0);
        fatesOf("000w", "490d;000k;490k", 3, 2, 2);
    }

    private static void testifies(String deeds, int least, int since, int want) {
        SleptWitness x = Due.court("000w", deeds);
        x.law(0, least);
        x.law(1, since);
        due.is(deeds + " by LEAST " + least + ", SINCE " + since, x.hears(0, 0, 2), want);
    }

    private static void testifies() {
        testifies("000d", 0, 0, 1);
        testifies("000d", 1, 0, 1);
        testifies("000d", 2, 0, 0);
        testifies("010d", 3, 9, 1);
        testifies("010d", 4, 9, 0);
        // Nothing heard, heard AWAKE, WOKEN.
        testifies("009d", 0, 0, 0);
        testifies("010d;000k", 0, 0, 0);
        testifies("000k", 0, 0, 0);
        // Woken later in the same HOUR, in one behind it.
        testifies("000d;000k", 0, 0, 0);
        testifies("000d;010k", 0, 9, 1);
        // Woken three HOURS ahead.
        testifies("030d;000k", 1, 2, 1);
        testifies("030d;000k", 1, 3, 0);
        testifies("090d;000k", 1, 8, 1);
        testifies("090d;000k", 1, 9, 0);
        testifies("490d;400f", 1, 8, 1);
        testifies("490d;400f", 1, 9, 0);
    }

    private static void proof() {
        SleptWitness x = Due.court("900w;000w;200w;000i;100w", "010d;019d;010k");
        // In HOUR 1: 1 is woken by the knock behind, 2 (LOUD 4) and 4 (5) have MARKS.
        due.is("proof(0, 0)", x.proof(0, 0), 4 + 16);
        due.is("proof(0, 1)", x.proof(0, 1), 1);
        due.is("proof(0, 2)", x.proof(0, 2), 0);
        due.is("proof(1, 0)", x.proof(1, 0), 1);
        due.is("proof(1, 1)", x.proof(1, 1), 0);
        due.is("proof(1, 2)", x.proof(1, 2), 1);
        due.is("proof(2, 0)", x.proof(2, 0), 4 + 16);
        x.law(2, 3);
        due.is("proof(0, 1) by 3", x.proof(0, 1), 0);
        due.is("proof(0, 2) by 3", x.proof(0, 2), 1);
        x.law(2, 8);
        due.is("proof(1, 2) by 8", x.proof(1, 2), 7);
        x.law(2, 1);
        due.is("proof(1, 1) by 1", x.proof(1, 1), 1);
        due.is("proof(1, 2) by 1", x.proof(1, 2), 0);
    }

    private static void nights() {
        SleptWitness x = Due.court("000w;900w", "000k;020f;030k;060d;069d");
        due.is("nights(0, 0)", x.nights(0, 0), 2);
        due.is("nights(0, 1)", x.nights(0, 1), 1);
        due.is("nights(1, 0)", x.nights(1, 0), 0);
        due.is("nights(1, 1)", x.nights(1, 1), 1);
        x.law(1, 3);
        due.is("nights(0, 1) by SINCE 3", x.nights(0, 1), 0);
    }

    private static void best() {
        due.is("best() of none", Due.court("", "000d").best(), Due.NONE);
        due.is("best() of like ones", Due.court("900w;000w;100w", "000d;060d").best(), 1);
        due.is("best() of unlike ones", Due.court("000w;200w;100w", "000d;062d;064d").best(), 1);
        due.is("best() of those that do not", Due.court("000i;900i", "000d").best(), 0);
        due.is("best() without DEEDS", Due.court("000w", "").best(), 0);
    }

    private static void byAll() {
        due.is("byAll() without DEEDS", Due.court("000w", "").byAll(), Due.NONE);
        due.is("byAll() without SLEEPERS", Due.court("", "000k").byAll(), Due.NONE);
        due.is("byAll(), AWAKE and WOKEN", Due.court("000i;000w", "000k").byAll(), 0);
        due.is("byAll(), a MARK", Due.court("000i;000w", "000d").byAll(), Due.NONE);
        due.is("byAll(), nothing heard", Due.court("000i;900i", "000k").byAll(), Due.NONE);
        due.is("byAll(), the first as told", Due.court("000i;000w", "000d;310f;100f").byAll(), 1);
    }

    private static void wrong() {
        SleptWitness x = Due.court("000w;300y", "000k;020f;030k");
        int[][] beside = {{-1, 2}, {-1, 3}};
        for (int s : beside[0]) {
            due.is("depth(0, " + s + ")", x.depth(0, s), Due.BAD);
            due.is("hears(0, " + s + ", 0)", x.hears(0, s, 0), Due.BAD);
            due.is("nights(" + s + ", 0)", x.nights(s, 0), Due.BAD);
            due.is("nights(0, " + s + ")", x.nights(0, s), Due.BAD);
        }
        for (int d : beside[1]) {
            due.is("hears(" + d + ", 0, 0)", x.hears(d, 0, 0), Due.BAD);
            due.is("hears(0, 0, " + d + ")", x.hears(0, 0, d), Due.BAD);
            due.is("proof(" + d + ", 0)", x.proof(d, 0), Due.BAD);
            due.is("proof(0, " + d + ")", x.proof(0, d), Due.BAD);
        }
        due.is("depth(-1, 0)", x.depth(-1, 0), Due.BAD);
        due.is("depth(50, 0)", x.depth(50, 0), Due.BAD);
        for (int wild : Due.WILD) {
            due.is("depth(wild, 0)", x.depth(wild, 0), Due.BAD);
            due.is("depth(0, wild)", x.depth(0, wild), Due.BAD);
            due.is("hears(wild, 0, 0)", x.hears(wild, 0, 0), Due.BAD);
            due.is("hears(0, wild, 0)", x.hears(0, wild, 0), Due.BAD);
            due.is("hears(0, 0, wild)", x.hears(0, 0, wild), Due.BAD);
            due.is("proof(wild, 0)", x.proof(wild, 0), Due.BAD);
            due.is("proof(0, wild)", x.proof(0, wild), Due.BAD);
            due.is("nights(wild, 0)", x.nights(wild, 0), Due.BAD);
            due.is("nights(0, wild)", x.nights(0, wild), Due.BAD);
            due.refused("hears(wild, 0, 0)", () -> Due.court("000w", "000k"), y -> y.hears(wild, 0, 0), Due.BAD);
        }
    }
}
