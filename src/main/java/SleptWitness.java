import java.util.Arrays;

/** The court in which only those may testify who were asleep at the time. */
public final class SleptWitness {
    public static final int NONE = -1, BAD = -2, NOT = -3, FULL = -4;

    private static final int SLEEPERS = 0, DEEDS = 1;
    private static final int BYTES = 39, UNIT = 5, MOST = 8;
    private static final int HOURS = 50, HOUSES = 10, SOUNDS = 4, SUPPERS = 4;

    private static final int YOUNG = 0, OLD = 1, WATCHMAN = 2, INSOMNIAC = 3;
    private static final int[] CYCLE = {1, 3, 5, 6, 4, 2};
    private static final int[] LOUD = {6, 4, 9, 3};

    private static final int NOTHING = 0, AWAKE = 1, WOKEN = 2, MARK = 3;
    private static final int WAKES_BY = 3, HOURS_UP = 3;

    private static final int LEAST = 0, SINCE = 1, PROOF = 2;
    private static final int[] LAW_LOW = {0, 0, 1};
    private static final int[] LAW_HIGH = {9, 9, 8};

    private static final int SHEETS = 4, FORMS = 3, ITEMS = 60;
    private static final int NULL = 1, INDEX = 2, CAST = 3, STORE = 4, SIZE = 5;

    private static final int SIXTEENTHS = 16;

    private final Text[] texts = new Text[2];
    private final Sleeper[] beds = new Sleeper[MOST];
    private int sleepers;
    private final Deeds deeds = new Deeds();
    private final int[] rules = {1, 2, 2};
    private final Tales tales = new Tales();
    private final Sheet[] sheets = new Sheet[SHEETS];
    private int finding;

    // Made once and used again by every call: a run must not make new rows.
    private final Sleeper guess = new Sleeper();
    private final Deeds others = new Deeds();
    private final Night night = new Night();
    private final Hearing hearing = new Hearing();
    private final long[] hoursFor = new long[MOST];
    private final int[] alike = new int[MOST + 1];
    private final long[] ways = new long[MOST + 1];

    /** A text of units with ; between them, each of three figures and a letter. */
    private static final class Text {
        final int[] bytes = new int[BYTES];
        final int[] greatest = new int[3];
        final String letters;
        int size;

        Text(int first, int second, int third, String letters) {
            greatest[0] = first;
            greatest[1] = second;
            greatest[2] = third;
            this.letters = letters;
        }

        boolean fits(int i) {
            int b = bytes[i];
            int at = i % UNIT;
            if (at < 3) {
                return b >= '0' && b <= '0' + greatest[at];
            }
            return at == 3 ? letters.indexOf((char) b) >= 0 : b == ';';
        }

        /** A ninth unit needs no look of its own: the bytes end with the eighth. */
        int firstFault() {
            for (int i = 0; i < size && i < BYTES; i++) {
                if (!fits(i)) {
                    return i;
                }
            }
            return size == 0 || size % UNIT == UNIT - 1 ? NONE : size;
        }

        int units() {
            return firstFault() == NONE ? Math.min(MOST, (size + 1) / UNIT) : 0;
        }

        int figure(int unit, int at) {
            return bytes[unit * UNIT + at] - '0';
        }

        int letter(int unit) {
            return letters.indexOf((char) bytes[unit * UNIT + 3]);
        }
    }

    private static final class Sleeper {
        int house;
        int bedtime;
        int supper;
        int kind;

        void become(Sleeper other) {
            house = other.house;
            bedtime = other.bedtime;
            supper = other.supper;
            kind = other.kind;
        }

        /** How DEEP so many HOURS behind the one in which it lay down; below 0 it does not lie yet. */
        int deepAfter(int hours) {
            if (hours < 0 || kind == INSOMNIAC) {
                return 0;
            }
            int deep = CYCLE[hours % CYCLE.length] + supper;
            switch (kind) {
                case YOUNG: return deep + 1;
                case OLD: return Math.max(1, deep - 2);
                case WATCHMAN: return Math.min(3, deep);
                default: return deep;
            }
        }
    }

    /** DEEDS as told, and the order in which they come: by HOUR, of like ones as told. */
    private static final class Deeds {
        final int[] hour = new int[MOST];
        final int[] house = new int[MOST];
        final int[] sound = new int[MOST];
        final int[] order = new int[MOST];
        int size;

        void add(int itsHour, int itsHouse, int itsSound) {
            if (size >= MOST) {
                return;
            }
            hour[size] = itsHour;
            house[size] = itsHouse;
            sound[size] = itsSound;
            int at = size;
            for (; at > 0 && hour[order[at - 1]] > itsHour; at--) {
                order[at] = order[at - 1];
            }
            order[at] = size;
            size++;
        }

        /** The DEEDS of another row, but for one of them (NONE: all). */
        void become(Deeds all, int without) {
            size = 0;
            for (int d = 0; d < all.size; d++) {
                if (d != without) {
                    add(all.hour[d], all.house[d], all.sound[d]);
                }
            }
        }
    }

    /** What one SLEEPER makes of DEEDS: SLEEPERS do not touch one another. */
    private static final class Night {
        final int[] loud = new int[MOST];
        final int[] deep = new int[MOST];
        final int[] fate = new int[MOST];
        final int[] marksOf = new int[SOUNDS];
        int marks;
        int wakings;
        int testimony;
        private int lain;
        private long wokenIn;

        void pass(Sleeper one, Deeds row, int[] rules) {
            lieDown(one);
            for (int k = 0; k < row.size; k++) {
                meet(one, row, row.order[k]);
            }
            testimony = 0;
            for (int d = 0; d < row.size; d++) {
                if (testifies(fate[d], deep[d], row.hour[d], rules)) {
                    testimony |= 1 << d;
                }
            }
        }

        /**
         * HOURS, as bits, in which it would TESTIFY to one more DEED, told behind all others:
         * as the last of its HOUR it changes nothing that counts for itself.
         */
        long hoursFor(Sleeper one, Deeds row, int house, int sound, int[] rules) {
            lieDown(one);
            int itsLoud = loudAt(one.house, house, sound);
            long hours = 0L;
            int k = 0;
            for (int hour = 0; hour < HOURS; hour++) {
                for (; k < row.size && row.hour[row.order[k]] == hour; k++) {
                    meet(one, row, row.order[k]);
                }
                int itsDeep = one.deepAfter(hour - lain);
                if (testifies(fateBy(itsLoud, itsDeep), itsDeep, hour, rules)) {
                    hours |= 1L << hour;
                }
            }
            return hours;
        }

        int deepIn(int hour, Sleeper one, Deeds row) {
            lieDown(one);
            for (int k = 0; k < row.size && row.hour[row.order[k]] < hour; k++) {
                meet(one, row, row.order[k]);
            }
            return one.deepAfter(hour - lain);
        }

        private void lieDown(Sleeper one) {
            lain = one.bedtime;
            wokenIn = 0L;
            marks = 0;
            wakings = 0;
            Arrays.fill(marksOf, 0);
        }

        private void meet(Sleeper one, Deeds row, int d) {
            int hour = row.hour[d];
            loud[d] = loudAt(one.house, row.house[d], row.sound[d]);
            deep[d] = one.deepAfter(hour - lain);
            fate[d] = fateBy(loud[d], deep[d]);
            if (fate[d] == MARK) {
                marks++;
                marksOf[row.sound[d]]++;
            }
            if (fate[d] == WOKEN) {
                wakings++;
                wokenIn |= 1L << hour;
                lain = hour + HOURS_UP;
            }
        }

        private static int loudAt(int house, int from, int sound) {
            return Math.max(0, LOUD[sound] - Math.abs(house - from));
        }

        private static int fateBy(int loud, int deep) {
            if (loud == 0) {
                return NOTHING;
            }
            if (deep == 0) {
                return AWAKE;
            }
            return loud >= deep + WAKES_BY ? WOKEN : MARK;
        }

        private boolean testifies(int itsFate, int itsDeep, int hour, int[] rules) {
            return itsFate == MARK && itsDeep >= rules[LEAST] && !wokenOfLate(hour, rules[SINCE]);
        }

        private boolean wokenOfLate(int hour, int since) {
            int first = Math.max(0, hour - since);
            long span = (1L << hour - first + 1) - 1L;
            return (wokenIn >> first & span) != 0L;
        }
    }

    /** What all SLEEPERS together make of DEEDS; a testimony has the DEEDS as bits. */
    private static final class Hearing {
        final int[] testimonies = new int[MOST];
        int size;
        int marks;
        int wakings;

        void open() {
            size = 0;
            marks = 0;
            wakings = 0;
        }

        void add(Night one) {
            if (size < MOST) {
                testimonies[size] = one.testimony;
                marks += one.marks;
                wakings += one.wakings;
                size++;
            }
        }

        int witnesses(int d) {
            int bits = 0;
            for (int s = 0; s < size; s++) {
                bits |= (testimonies[s] >> d & 1) << s;
            }
            return bits;
        }

        int provenOf(int deeds, int proof) {
            int proven = 0;
            for (int d = 0; d < deeds; d++) {
                if (Integer.bitCount(witnesses(d)) >= proof) {
                    proven++;
                }
            }
            return proven;
        }
    }

    private static final class Tales {
        final int[] who = new int[MOST];
        final int[] sound = new int[MOST];
        final int[] marks = new int[MOST];
        int size;

        static boolean mayBe(int who, int sound, int marks) {
            return within(who, MOST) && within(sound, SOUNDS) && within(marks, MOST + 1);
        }

        void add(int itsWho, int itsSound, int itsMarks) {
            if (size < MOST) {
                who[size] = itsWho;
                sound[size] = itsSound;
                marks[size] = itsMarks;
                size++;
            }
        }
    }

    /** A SHEET keeps its items as ints, cut to what its FORM holds. */
    private static final class Sheet {
        final int[] items = new int[ITEMS];
        boolean lost = true;
        int form;
        int size;

        void renew(int itsForm, int itsSize) {
            lost = false;
            form = itsForm;
            size = itsSize;
            Arrays.fill(items, 0);
        }

        void enter(int i, int v) {
            if (form == 0) {
                items[i] = (byte) v;
            } else {
                items[i] = form == 1 ? (short) v : v;
            }
        }
    }

    public SleptWitness() {
        texts[SLEEPERS] = new Text(9, 9, 3, "yowi");
        texts[DEEDS] = new Text(4, 9, 9, "kvfd");
        for (int s = 0; s < MOST; s++) {
            beds[s] = new Sleeper();
        }
        for (int s = 0; s < SHEETS; s++) {
            sheets[s] = new Sheet();
        }
    }

    private static boolean within(int v, int end) {
        return v >= 0 && v < end;
    }

    private static long longRefusal(int refusal) {
        return Long.MIN_VALUE - refusal;
    }

    // ---- sleepers, deeds, the law

    public int type(int text, int b) {
        if (!within(text, texts.length) || !within(b, 256)) {
            return BAD;
        }
        Text t = texts[text];
        if (t.size >= BYTES) {
            return FULL;
        }
        t.bytes[t.size] = b;
        return resize(text, t.size + 1);
    }

    public int wipe(int text) {
        if (!within(text, texts.length)) {
            return BAD;
        }
        int had = texts[text].size;
        resize(text, 0);
        return had;
    }

    public int undo(int text) {
        if (!within(text, texts.length)) {
            return BAD;
        }
        int had = texts[text].size;
        return had == 0 ? NOT : resize(text, had - 1);
    }

    public int fault(int text) {
        return within(text, texts.length) ? texts[text].firstFault() : BAD;
    }

    private int resize(int text, int size) {
        texts[text].size = size;
        if (text == SLEEPERS) {
            makeBeds(texts[text]);
        } else {
            tellDeeds(texts[text]);
        }
        return size;
    }

    private void makeBeds(Text t) {
        sleepers = t.units();
        for (int s = 0; s < sleepers; s++) {
            beds[s].house = t.figure(s, 0);
            beds[s].bedtime = t.figure(s, 1);
            beds[s].supper = t.figure(s, 2);
            beds[s].kind = t.letter(s);
        }
    }

    private void tellDeeds(Text t) {
        int units = t.units();
        deeds.size = 0;
        for (int d = 0; d < units; d++) {
            deeds.add(10 * t.figure(d, 0) + t.figure(d, 1), t.figure(d, 2), t.letter(d));
        }
    }

    public int sleeper(int sleeper, int what) {
        if (!within(sleeper, sleepers)) {
            return BAD;
        }
        switch (what) {
            case 0: return beds[sleeper].house;
            case 1: return beds[sleeper].bedtime;
            case 2: return beds[sleeper].supper;
            case 3: return beds[sleeper].kind;
            default: return BAD;
        }
    }

    public int deed(int deed, int what) {
        if (!within(deed, deeds.size)) {
            return BAD;
        }
        switch (what) {
            case 0: return deeds.hour[deed];
            case 1: return deeds.house[deed];
            case 2: return deeds.sound[deed];
            default: return BAD;
        }
    }

    public int law(int what, int v) {
        if (!within(what, rules.length) || v < LAW_LOW[what] || v > LAW_HIGH[what]) {
            return BAD;
        }
        int was = rules[what];
        rules[what] = v;
        return was;
    }

    // ---- nights

    private void hearAll(Deeds row) {
        hearing.open();
        for (int s = 0; s < sleepers; s++) {
            night.pass(beds[s], row, rules);
            hearing.add(night);
        }
    }

    private int provenOf(Deeds row) {
        return hearing.provenOf(row.size, rules[PROOF]);
    }

    public int depth(int hour, int sleeper) {
        if (!within(hour, HOURS) || !within(sleeper, sleepers)) {
            return BAD;
        }
        return night.deepIn(hour, beds[sleeper], deeds);
    }

    public int hears(int deed, int sleeper, int what) {
        if (!within(deed, deeds.size) || !within(sleeper, sleepers)) {
            return BAD;
        }
        night.pass(beds[sleeper], deeds, rules);
        switch (what) {
            case 0: return night.loud[deed];
            case 1: return night.fate[deed];
            case 2: return night.testimony >> deed & 1;
            default: return BAD;
        }
    }

    public int proof(int deed, int what) {
        if (!within(deed, deeds.size)) {
            return BAD;
        }
        hearAll(deeds);
        int who = hearing.witnesses(deed);
        int lacks = Math.max(0, rules[PROOF] - Integer.bitCount(who));
        switch (what) {
            case 0: return who;
            case 1: return lacks == 0 ? 1 : 0;
            case 2: return lacks;
            default: return BAD;
        }
    }

    public int nights(int sleeper, int what) {
        if (!within(sleeper, sleepers)) {
            return BAD;
        }
        night.pass(beds[sleeper], deeds, rules);
        switch (what) {
            case 0: return night.wakings;
            case 1: return Integer.bitCount(night.testimony);
            default: return BAD;
        }
    }

    public int best() {
        int best = NONE;
        int most = -1;
        for (int s = 0; s < sleepers; s++) {
            night.pass(beds[s], deeds, rules);
            int many = Integer.bitCount(night.testimony);
            if (many > most) {
                most = many;
                best = s;
            }
        }
        return best;
    }

    public int byAll() {
        if (sleepers == 0) {
            return NONE;
        }
        int seen = (1 << deeds.size) - 1;
        for (int s = 0; s < sleepers; s++) {
            seen &= seenBy(s);
        }
        for (int d = 0; d < deeds.size; d++) {
            if ((seen >> d & 1) != 0) {
                return d;
            }
        }
        return NONE;
    }

    private int seenBy(int sleeper) {
        night.pass(beds[sleeper], deeds, rules);
        int seen = 0;
        for (int d = 0; d < deeds.size; d++) {
            if (night.fate[d] == AWAKE || night.fate[d] == WOKEN) {
                seen |= 1 << d;
            }
        }
        return seen;
    }

    // ---- plans

    public int quiet(int house, int sound, int i) {
        if (!within(house, HOUSES) || !within(sound, SOUNDS) || i != NONE && !within(i, HOURS)) {
            return BAD;
        }
        if (deeds.size >= MOST) {
            return NOT;
        }
        for (int s = 0; s < sleepers; s++) {
            hoursFor[s] = night.hoursFor(beds[s], deeds, house, sound, rules);
        }
        int many = 0;
        for (int hour = 0; hour < HOURS; hour++) {
            if (testifyingIn(hour) < rules[PROOF]) {
                if (many == i) {
                    return hour;
                }
                many++;
            }
        }
        return i == NONE ? many : NONE;
    }

    private int testifyingIn(int hour) {
        int many = 0;
        for (int s = 0; s < sleepers; s++) {
            many += (int) (hoursFor[s] >> hour & 1L);
        }
        return many;
    }

    public int move(int sleeper, int what) {
        if (!within(sleeper, sleepers) || !within(what, 2)) {
            return BAD;
        }
        hearAll(deeds);
        guess.become(beds[sleeper]);
        int which = 0;
        int most = -1;
        for (int house = 0; house < HOUSES; house++) {
            guess.house = house;
            night.pass(guess, deeds, rules);
            hearing.testimonies[sleeper] = night.testimony;
            int many = provenOf(deeds);
            if (many > most) {
                most = many;
                which = house;
            }
        }
        return what == 0 ? which : most;
    }

    /** Only who TESTIFIES counts for a DEED, so the least row has the first of those. */
    public int need(int deed, int i) {
        if (!within(deed, deeds.size) || i != NONE && !within(i, 2)) {
            return BAD;
        }
        hearAll(deeds);
        int who = hearing.witnesses(deed);
        int many = Math.max(0, Integer.bitCount(who) - rules[PROOF] + 1);
        if (many > 2) {
            return NONE;
        }
        if (i == NONE) {
            return many;
        }
        return i < many ? bitOf(who, i) : NONE;
    }

    private static int bitOf(int bits, int i) {
        int left = i;
        for (int k = 0; k < MOST; k++) {
            if ((bits >> k & 1) != 0) {
                if (left == 0) {
                    return k;
                }
                left--;
            }
        }
        return NONE;
    }

    public int feed(int sleeper, int what) {
        if (!within(sleeper, sleepers) || !within(what, 2)) {
            return BAD;
        }
        guess.become(beds[sleeper]);
        int which = 0;
        int most = -1;
        for (int supper = 0; supper < SUPPERS; supper++) {
            guess.supper = supper;
            night.pass(guess, deeds, rules);
            int many = Integer.bitCount(night.testimony);
            if (many > most) {
                most = many;
                which = supper;
            }
        }
        return what == 0 ? which : most;
    }

    // ---- told, feigned

    public int told(int sleeper, int sound, int n) {
        if (!Tales.mayBe(sleeper, sound, n)) {
            return BAD;
        }
        if (tales.size >= MOST) {
            return FULL;
        }
        tales.add(sleeper, sound, n);
        return tales.size;
    }

    public int forget() {
        int had = tales.size;
        tales.size = 0;
        return had;
    }

    public int read(int s) {
        if (!within(s, SHEETS)) {
            return BAD;
        }
        Sheet from = sheets[s];
        if (from.lost) {
            return found(NULL);
        }
        int had = tales.size;
        for (int i = 0; i + 2 < from.size && tales.size < MOST; i += 3) {
            if (!Tales.mayBe(from.items[i], from.items[i + 1], from.items[i + 2])) {
                break;
            }
            tales.add(from.items[i], from.items[i + 1], from.items[i + 2]);
        }
        return tales.size - had;
    }

    /** Whether all that was TOLD comes out so by the other DEEDS. */
    private boolean comesOut() {
        for (int t = 0; t < tales.size; t++) {
            if (tales.who[t] >= sleepers) {
                return false;
            }
            night.pass(beds[tales.who[t]], others, rules);
            if (night.marksOf[tales.sound[t]] != tales.marks[t]) {
                return false;
            }
        }
        return true;
    }

    public int never() {
        int bits = 0;
        for (int d = 0; d < deeds.size; d++) {
            others.become(deeds, d);
            if (comesOut()) {
                bits |= 1 << d;
            }
        }
        return bits;
    }

    public int place(int deed) {
        if (!within(deed, deeds.size)) {
            return BAD;
        }
        others.become(deeds, NONE);
        int bits = 0;
        for (int house = 0; house < HOUSES; house++) {
            others.house[deed] = house;
            if (comesOut()) {
                bits |= 1 << house;
            }
        }
        return bits;
    }

    public int ask() {
        int open = never();
        int which = NONE;
        int least = MOST + 1;
        for (int s = 0; s < sleepers; s++) {
            int many = mostAlike(s, open);
            if (many < least) {
                least = many;
                which = s;
            }
        }
        return which;
    }

    /** Of these DEEDS, the most without which a SLEEPER has the same number of MARKS. */
    private int mostAlike(int sleeper, int open) {
        Arrays.fill(alike, 0);
        int most = 0;
        for (int d = 0; d < deeds.size; d++) {
            if ((open >> d & 1) != 0) {
                others.become(deeds, d);
                night.pass(beds[sleeper], others, rules);
                alike[night.marks]++;
                most = Math.max(most, alike[night.marks]);
            }
        }
        return most;
    }

    public long feign(int c, int deed, int what) {
        if (!within(c, SIXTEENTHS + 1) || !within(deed, deeds.size) || !within(what, 2)) {
            return longRefusal(BAD);
        }
        hearAll(deeds);
        int many = Integer.bitCount(hearing.witnesses(deed));
        spreadWays(many, c);
        long above = 0L;
        for (int k = rules[PROOF]; k <= many; k++) {
            above += ways[k];
        }
        long below = 1L << 4 * many;
        // What stands below is a power of 2, so halving is all there is to lowest terms (0 by 1, too).
        for (int k = 0; k < 4 * MOST && below > 1L && (above & 1L) == 0L; k++) {
            above >>= 1;
            below >>= 1;
        }
        return what == 0 ? above : below;
    }

    /** ways[k]: in how many of 16 to the power of many ways just k of them do not feign. */
    private void spreadWays(int many, int c) {
        Arrays.fill(ways, 0L);
        ways[0] = 1L;
        for (int n = 1; n <= many && n <= MOST; n++) {
            for (int k = n; k > 0; k--) {
                ways[k] = ways[k] * c + ways[k - 1] * (SIXTEENTHS - c);
            }
            ways[0] *= c;
        }
    }

    public int court(int seed, int n, int what) {
        if (n < 1 || n > MOST || !within(what, 2)) {
            return BAD;
        }
        others.size = 0;
        int hourSeed = seed;
        for (int d = 0; d < n; d++) {
            hourSeed = nextSeed(hourSeed);
            int houseSeed = nextSeed(hourSeed);
            int soundSeed = nextSeed(houseSeed);
            others.add(lot(hourSeed, HOURS), lot(houseSeed, HOUSES), lot(soundSeed, SOUNDS));
            hourSeed = soundSeed;
        }
        hearAll(others);
        return what == 0 ? provenOf(others) : hearing.marks;
    }

    private static int nextSeed(int seed) {
        return 1103515245 * seed + 12345;
    }

    private static int lot(int seed, int m) {
        return m > 0 ? (seed >>> 16) % m : 0;
    }

    // ---- sheets

    private int found(int number) {
        finding = number;
        return -10 - number;
    }

    public int sheet(int s, int form, int n) {
        if (!within(s, SHEETS) || !within(form, FORMS) || n > ITEMS) {
            return BAD;
        }
        if (n < 0) {
            return found(SIZE);
        }
        sheets[s].renew(form, n);
        return n;
    }

    public int lose(int s) {
        if (!within(s, SHEETS)) {
            return BAD;
        }
        if (sheets[s].lost) {
            return found(NULL);
        }
        sheets[s].lost = true;
        return sheets[s].size;
    }

    /** The number of the FINDING about item i of a SHEET, treated as of a FORM; 0: it is there. */
    private int findingAt(Sheet sheet, int form, int i) {
        if (sheet.lost) {
            return NULL;
        }
        if (sheet.form != form) {
            return CAST;
        }
        return within(i, sheet.size) ? 0 : INDEX;
    }

    public int put(int s, int form, int i, int v) {
        if (!within(s, SHEETS) || !within(form, FORMS)) {
            return BAD;
        }
        int number = findingAt(sheets[s], form, i);
        if (number != 0) {
            return found(number);
        }
        sheets[s].enter(i, v);
        return 1;
    }

    public int get(int s, int form, int i) {
        if (!within(s, SHEETS) || !within(form, FORMS)) {
            return Integer.MIN_VALUE;
        }
        int number = findingAt(sheets[s], form, i);
        if (number != 0) {
            finding = number;
            return Integer.MIN_VALUE;
        }
        return sheets[s].items[i];
    }

    public int copy(int s, int i, int t, int j, int n) {
        if (!within(s, SHEETS) || !within(t, SHEETS)) {
            return BAD;
        }
        Sheet from = sheets[s];
        Sheet to = sheets[t];
        if (from.lost || to.lost) {
            return found(NULL);
        }
        if (from.form != to.form) {
            return found(STORE);
        }
        if (!holds(from, i, n) || !holds(to, j, n)) {
            return found(INDEX);
        }
        System.arraycopy(from.items, i, to.items, j, n);
        return 1;
    }

    private static boolean holds(Sheet sheet, int i, int n) {
        return i >= 0 && n >= 0 && i <= sheet.size && n <= sheet.size - i;
    }

    public int write(int sleeper, int s) {
        if (!within(sleeper, sleepers) || !within(s, SHEETS)) {
            return BAD;
        }
        Sheet to = sheets[s];
        if (to.lost) {
            return found(NULL);
        }
        int many = Math.min(HOURS, to.size);
        for (int hour = 0; hour < many; hour++) {
            to.enter(hour, night.deepIn(hour, beds[sleeper], deeds));
        }
        return many;
    }

    public int count(int what) {
        hearAll(deeds);
        switch (what) {
            case 0: return sleepers;
            case 1: return deeds.size;
            case 2: return texts[SLEEPERS].size;
            case 3: return texts[DEEDS].size;
            case 4: return provenOf(deeds);
            case 5: return hearing.marks;
            case 6: return hearing.wakings;
            case 7: return tales.size;
            case 8: return finding;
            default: return BAD;
        }
    }

    public long digest() {
        long h = 17L;
        for (int what = 0; what < 8; what++) {
            h = 31L * h + count(what);
        }
        for (int text = 0; text < texts.length; text++) {
            h = 31L * h + fault(text);
        }
        for (int s = 0; s < sleepers; s++) {
            h = digestSleeper(h, s);
        }
        for (int d = 0; d < deeds.size; d++) {
            h = digestDeed(h, d);
        }
        for (int sound = 0; sound < SOUNDS; sound++) {
            h = 31L * h + quiet(4, sound, NONE);
            h = 31L * h + quiet(4, sound, 0);
        }
        h = 31L * h + best();
        h = 31L * h + byAll();
        h = 31L * h + never();
        h = 31L * h + ask();
        h = 31L * h + court(7, 8, 0);
        return 31L * h + court(7, 8, 1);
    }

    private long digestSleeper(long before, int s) {
        long h = before;
        for (int what = 0; what < 4; what++) {
            h = 31L * h + sleeper(s, what);
        }
        h = 31L * h + depth(5, s);
        h = 31L * h + depth(20, s);
        h = 31L * h + depth(49, s);
        h = 31L * h + nights(s, 0);
        h = 31L * h + nights(s, 1);
        h = 31L * h + move(s, 0);
        h = 31L * h + move(s, 1);
        h = 31L * h + feed(s, 0);
        return 31L * h + feed(s, 1);
    }

    private long digestDeed(long before, int d) {
        long h = before;
        for (int what = 0; what < 3; what++) {
            h = 31L * h + deed(d, what);
        }
        for (int what = 0; what < 3; what++) {
            h = 31L * h + proof(d, what);
        }
        h = 31L * h + place(d);
        h = 31L * h + need(d, NONE);
        h = 31L * h + need(d, 0);
        h = 31L * h + feign(5, d, 0);
        h = 31L * h + feign(5, d, 1);
        for (int s = 0; s < sleepers; s++) {
            for (int what = 0; what < 3; what++) {
                h = 31L * h + hears(d, s, what);
            }
        }
        return h;
    }
}
