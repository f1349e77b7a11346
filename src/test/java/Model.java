import java.math.BigInteger;
import java.util.ArrayList;
import java.util.List;

/**
 * The document once more, in its slowest form: HOUR by HOUR, with all SLEEPERS each time,
 * and every plan by trying. Only what the answers are is of interest here.
 */
final class Model {
    static final int NONE = -1, BAD = -2, NOT = -3, FULL = -4;

    record Bed(int house, int bedtime, int supper, char kind) { }

    record Act(int hour, int house, char sound) { }

    record Tale(int who, int sound, int marks) { }

    /** Rows by SLEEPER, then by HOUR or by DEED. */
    record Past(int[][] deep, int[][] loud, int[][] fate, boolean[][] woken, boolean[][] testifies) { }

    private final StringBuilder[] texts = {new StringBuilder(), new StringBuilder()};
    private int least = 1;
    private int since = 2;
    private int proof = 2;
    private final List<Tale> tales = new ArrayList<>();
    private final Object[] sheets = new Object[4];
    private int finding;

    // ---- texts

    private static final String[][] UNITS = {
        {"0123456789", "0123456789", "0123", "yowi"},
        {"01234", "0123456789", "0123456789", "kvfd"},
    };

    int type(int text, int b) {
        if (text < 0 || text > 1 || b < 0 || b > 255) return BAD;
        if (texts[text].length() == 39) return FULL;
        texts[text].append((char) b);
        return texts[text].length();
    }

    int wipe(int text) {
        if (text < 0 || text > 1) return BAD;
        int had = texts[text].length();
        texts[text].setLength(0);
        return had;
    }

    int undo(int text) {
        if (text < 0 || text > 1) return BAD;
        if (texts[text].length() == 0) return NOT;
        texts[text].setLength(texts[text].length() - 1);
        return texts[text].length();
    }

    int fault(int text) {
        if (text < 0 || text > 1) return BAD;
        String all = texts[text].toString();
        if (all.isEmpty()) return NONE;
        int at = 0;
        for (int unit = 0; ; unit++) {
            if (unit == 8) return at;
            for (String may : UNITS[text]) {
                if (at == all.length() || may.indexOf(all.charAt(at)) < 0) return at;
                at++;
            }
            if (at == all.length()) return NONE;
            if (all.charAt(at) != ';') return at;
            at++;
        }
    }

    private String[] units(int text) {
        if (texts[text].length() == 0 || fault(text) != NONE) return new String[0];
        return texts[text].toString().split(";");
    }

    private List<Bed> beds() {
        List<Bed> beds = new ArrayList<>();
        for (String u : units(0)) {
            beds.add(new Bed(u.charAt(0) - '0', u.charAt(1) - '0', u.charAt(2) - '0', u.charAt(3)));
        }
        return beds;
    }

    private List<Act> acts() {
        List<Act> acts = new ArrayList<>();
        for (String u : units(1)) {
            acts.add(new Act(Integer.parseInt(u.substring(0, 2)), u.charAt(2) - '0', u.charAt(3)));
        }
        return acts;
    }

    int sleeper(int s, int what) {
        List<Bed> beds = beds();
        if (s < 0 || s >= beds.size() || what < 0 || what > 3) return BAD;
        Bed b = beds.get(s);
        return new int[] {b.house, b.bedtime, b.supper, "yowi".indexOf(b.kind)}[what];
    }

    int deed(int d, int what) {
        List<Act> acts = acts();
        if (d < 0 || d >= acts.size() || what < 0 || what > 2) return BAD;
        Act a = acts.get(d);
        return new int[] {a.hour, a.house, "kvfd".indexOf(a.sound)}[what];
    }

    int law(int what, int v) {
        int was;
        switch (what) {
            case 0:
                if (v < 0 || v > 9) return BAD;
                was = least;
                least = v;
                return was;
            case 1:
                if (v < 0 || v > 9) return BAD;
                was = since;
                since = v;
                return was;
            case 2:
                if (v < 1 || v > 8) return BAD;
                was = proof;
                proof = v;
                return was;
            default:
                return BAD;
        }
    }

    // ---- nights

    private static int loudOf(char sound) {
        return sound == 'k' ? 6 : sound == 'v' ? 4 : sound == 'f' ? 9 : 3;
    }

    private static int deepOf(Bed bed, int lying) {
        int deep = "135642".charAt(lying % 6) - '0';
        deep += bed.supper;
        if (bed.kind == 'y') deep += 1;
        if (bed.kind == 'o') deep = deep - 2 < 1 ? 1 : deep - 2;
        if (bed.kind == 'w' && deep > 3) deep = 3;
        return deep;
    }

    private Past past(List<Bed> beds, List<Act> acts) {
        int n = beds.size();
        int m = acts.size();
        Past p = new Past(new int[n][50], new int[n][m], new int[n][m], new boolean[n][50], new boolean[n][m]);
        for (int s = 0; s < n; s++) {
            Bed bed = beds.get(s);
            boolean lies = false;
            int lying = 0;
            int up = 0;
            for (int hour = 0; hour < 50; hour++) {
                if (up > 0) {
                    up--;
                    if (up == 0) {
                        lies = true;
                        lying = 0;
                    }
                } else if (hour == bed.bedtime) {
                    lies = true;
                    lying = 0;
                } else if (lies) {
                    lying++;
                }
                int deep = lies && bed.kind != 'i' ? deepOf(bed, lying) : 0;
                p.deep[s][hour] = deep;
                for (int d = 0; d < m; d++) {
                    Act a = acts.get(d);
                    if (a.hour != hour) continue;
                    int loud = loudOf(a.sound);
                    for (int h = bed.house; h != a.house && loud > 0; h += h < a.house ? 1 : -1) loud--;
                    p.loud[s][d] = loud;
                    if (loud == 0) p.fate[s][d] = 0;
                    else if (deep == 0) p.fate[s][d] = 1;
                    else if (loud - deep >= 3) {
                        p.fate[s][d] = 2;
                        p.woken[s][hour] = true;
                        deep = 0;
                        lies = false;
                        up = 3;
                    } else p.fate[s][d] = 3;
                }
            }
            for (int d = 0; d < m; d++) {
                int hour = acts.get(d).hour;
                boolean testifies = p.fate[s][d] == 3 && p.deep[s][hour] >= least;
                for (int back = 0; back <= since; back++) {
                    if (hour - back >= 0 && p.woken[s][hour - back]) testifies = false;
                }
                p.testifies[s][d] = testifies;
            }
        }
        return p;
    }

    private Past past() {
        return past(beds(), acts());
    }

    private int bits(Past p, int d) {
        int bits = 0;
        for (int s = 0; s < p.testifies.length; s++) if (p.testifies[s][d]) bits += 1 << s;
        return bits;
    }

    private boolean proven(Past p, int d) {
        int many = 0;
        for (boolean[] one : p.testifies) if (one[d]) many++;
        return many >= proof;
    }

    private int proven(List<Bed> beds, List<Act> acts) {
        Past p = past(beds, acts);
        int many = 0;
        for (int d = 0; d < acts.size(); d++) if (proven(p, d)) many++;
        return many;
    }

    private static int marks(Past p, List<Act> acts, int s, int sound) {
        int many = 0;
        for (int d = 0; d < acts.size(); d++) {
            if (p.fate[s][d] == 3 && (sound == NONE || acts.get(d).sound == "kvfd".charAt(sound))) many++;
        }
        return many;
    }

    private static int testimonies(Past p, int s) {
        int many = 0;
        for (boolean one : p.testifies[s]) if (one) many++;
        return many;
    }

    private static int wakings(Past p, int s) {
        int many = 0;
        for (boolean one : p.woken[s]) if (one) many++;
        return many;
    }

    int depth(int hour, int s) {
        if (hour < 0 || hour > 49 || s < 0 || s >= beds().size()) return BAD;
        return past().deep[s][hour];
    }

    int hears(int d, int s, int what) {
        if (d < 0 || d >= acts().size() || s < 0 || s >= beds().size() || what < 0 || what > 2) return BAD;
        Past p = past();
        return what == 0 ? p.loud[s][d] : what == 1 ? p.fate[s][d] : p.testifies[s][d] ? 1 : 0;
    }

    int proof(int d, int what) {
        if (d < 0 || d >= acts().size() || what < 0 || what > 2) return BAD;
        int bits = bits(past(), d);
        int many = Integer.bitCount(bits);
        return what == 0 ? bits : what == 1 ? (many >= proof ? 1 : 0) : many >= proof ? 0 : proof - many;
    }

    int nights(int s, int what) {
        if (s < 0 || s >= beds().size() || what < 0 || what > 1) return BAD;
        return what == 0 ? wakings(past(), s) : testimonies(past(), s);
    }

    int best() {
        Past p = past();
        int best = NONE;
        for (int s = 0; s < beds().size(); s++) {
            if (best == NONE || testimonies(p, s) > testimonies(p, best)) best = s;
        }
        return best;
    }

    int byAll() {
        Past p = past();
        if (beds().isEmpty()) return NONE;
        for (int d = 0; d < acts().size(); d++) {
            boolean all = true;
            for (int[] fate : p.fate) all &= fate[d] == 1 || fate[d] == 2;
            if (all) return d;
        }
        return NONE;
    }

    // ---- plans

    int quiet(int house, int sound, int i) {
        if (house < 0 || house > 9 || sound < 0 || sound > 3 || i < -1 || i > 49) return BAD;
        List<Act> acts = acts();
        if (acts.size() == 8) return NOT;
        List<Integer> hours = new ArrayList<>();
        for (int hour = 0; hour < 50; hour++) {
            List<Act> more = new ArrayList<>(acts);
            more.add(new Act(hour, house, "kvfd".charAt(sound)));
            if (!proven(past(beds(), more), acts.size())) hours.add(hour);
        }
        return i == NONE ? hours.size() : i < hours.size() ? hours.get(i) : NONE;
    }

    int move(int s, int what) {
        List<Bed> beds = beds();
        if (s < 0 || s >= beds.size() || what < 0 || what > 1) return BAD;
        int which = 0;
        int most = -1;
        for (int house = 9; house >= 0; house--) {
            Bed b = beds().get(s);
            beds.set(s, new Bed(house, b.bedtime, b.supper, b.kind));
            int many = proven(beds, acts());
            if (many >= most) {
                most = many;
                which = house;
            }
        }
        return what == 0 ? which : most;
    }

    int need(int d, int i) {
        if (d < 0 || d >= acts().size() || i < -1 || i > 1) return BAD;
        int n = beds().size();
        List<int[]> rows = new ArrayList<>();
        rows.add(new int[0]);
        for (int a = 0; a < n; a++) rows.add(new int[] {a});
        for (int a = 0; a < n; a++) for (int b = a + 1; b < n; b++) rows.add(new int[] {a, b});
        for (int[] row : rows) {
            List<Bed> left = beds();
            for (int k = row.length - 1; k >= 0; k--) left.remove(row[k]);
            if (!proven(past(left, acts()), d)) return i == NONE ? row.length : i < row.length ? row[i] : NONE;
        }
        return NONE;
    }

    int feed(int s, int what) {
        List<Bed> beds = beds();
        if (s < 0 || s >= beds.size() || what < 0 || what > 1) return BAD;
        int which = 0;
        int most = -1;
        for (int supper = 3; supper >= 0; supper--) {
            Bed b = beds().get(s);
            beds.set(s, new Bed(b.house, b.bedtime, supper, b.kind));
            int many = testimonies(past(beds, acts()), s);
            if (many >= most) {
                most = many;
                which = supper;
            }
        }
        return what == 0 ? which : most;
    }

    // ---- told, feigned

    int told(int s, int sound, int n) {
        if (s < 0 || s > 7 || sound < 0 || sound > 3 || n < 0 || n > 8) return BAD;
        if (tales.size() == 8) return FULL;
        tales.add(new Tale(s, sound, n));
        return tales.size();
    }

    int forget() {
        int had = tales.size();
        tales.clear();
        return had;
    }

    int read(int s) {
        if (s < 0 || s > 3) return BAD;
        if (sheets[s] == null) return found(1);
        int many = 0;
        while (3 * many + 3 <= size(s) && told(item(s, 3 * many), item(s, 3 * many + 1), item(s, 3 * many + 2)) >= 0) many++;
        return many;
    }

    private boolean comesOut(List<Act> acts) {
        Past p = past(beds(), acts);
        for (Tale t : tales) {
            if (t.who >= beds().size() || marks(p, acts, t.who, t.sound) != t.marks) return false;
        }
        return true;
    }

    int never() {
        int bits = 0;
        for (int d = 0; d < acts().size(); d++) {
            List<Act> left = acts();
            left.remove(d);
            if (comesOut(left)) bits += 1 << d;
        }
        return bits;
    }

    int place(int d) {
        if (d < 0 || d >= acts().size()) return BAD;
        int bits = 0;
        for (int house = 0; house < 10; house++) {
            List<Act> acts = acts();
            acts.set(d, new Act(acts.get(d).hour, house, acts.get(d).sound));
            if (comesOut(acts)) bits += 1 << house;
        }
        return bits;
    }

    int ask() {
        int never = never();
        int which = NONE;
        int least = 99;
        for (int s = 0; s < beds().size(); s++) {
            int greatest = 0;
            for (int marks = 0; marks <= 8; marks++) {
                int many = 0;
                for (int d = 0; d < acts().size(); d++) {
                    List<Act> left = acts();
                    left.remove(d);
                    if ((never & 1 << d) != 0 && marks(past(beds(), left), left, s, NONE) == marks) many++;
                }
                greatest = Math.max(greatest, many);
            }
            if (greatest < least) {
                least = greatest;
                which = s;
            }
        }
        return which;
    }

    long feign(int c, int d, int what) {
        if (c < 0 || c > 16 || d < 0 || d >= acts().size() || what < 0 || what > 1) return Long.MIN_VALUE + 2;
        int n = beds().size();
        BigInteger above = BigInteger.ZERO;
        for (int feigning = 0; feigning < 1 << n; feigning++) {
            List<Bed> beds = beds();
            BigInteger ways = BigInteger.ONE;
            for (int s = 0; s < n; s++) {
                boolean so = (feigning & 1 << s) != 0;
                ways = ways.multiply(BigInteger.valueOf(so ? c : 16 - c));
                Bed b = beds.get(s);
                if (so) beds.set(s, new Bed(b.house, b.bedtime, b.supper, 'i'));
            }
            if (ways.signum() != 0 && proven(past(beds, acts()), d)) above = above.add(ways);
        }
        BigInteger below = BigInteger.valueOf(16).pow(n);
        BigInteger both = above.gcd(below);
        return (what == 0 ? above : below).divide(both).longValueExact();
    }

    int court(int seed, int n, int what) {
        if (n < 1 || n > 8 || what < 0 || what > 1) return BAD;
        List<Act> acts = new ArrayList<>();
        long now = seed;
        for (int d = 0; d < n; d++) {
            int[] lots = {50, 10, 4};
            for (int k = 0; k < 3; k++) {
                now = now * 1103515245L + 12345L & 0xffffffffL;
                lots[k] = (int) ((now >> 16) % lots[k]);
            }
            acts.add(new Act(lots[0], lots[1], "kvfd".charAt(lots[2])));
        }
        if (what == 0) return proven(beds(), acts);
        int marks = 0;
        for (int s = 0; s < beds().size(); s++) marks += marks(past(beds(), acts), acts, s, NONE);
        return marks;
    }

    // ---- sheets

    private int found(int number) {
        finding = number;
        return -10 - number;
    }

    private int size(int s) {
        return java.lang.reflect.Array.getLength(sheets[s]);
    }

    private int item(int s, int i) {
        return java.lang.reflect.Array.getInt(sheets[s], i);
    }

    private void enter(int s, int i, int v) {
        if (sheets[s] instanceof byte[] row) row[i] = (byte) v;
        if (sheets[s] instanceof short[] row) row[i] = (short) v;
        if (sheets[s] instanceof int[] row) row[i] = v;
    }

    private int form(int s) {
        return sheets[s] instanceof byte[] ? 0 : sheets[s] instanceof short[] ? 1 : 2;
    }

    int sheet(int s, int form, int n) {
        if (s < 0 || s > 3 || form < 0 || form > 2 || n > 60) return BAD;
        if (n < 0) return found(5);
        sheets[s] = form == 0 ? new byte[n] : form == 1 ? new short[n] : new int[n];
        return n;
    }

    int lose(int s) {
        if (s < 0 || s > 3) return BAD;
        if (sheets[s] == null) return found(1);
        int had = size(s);
        sheets[s] = null;
        return had;
    }

    int put(int s, int form, int i, int v) {
        if (s < 0 || s > 3 || form < 0 || form > 2) return BAD;
        if (sheets[s] == null) return found(1);
        if (form(s) != form) return found(3);
        if (i < 0 || i >= size(s)) return found(2);
        enter(s, i, v);
        return 1;
    }

    int get(int s, int form, int i) {
        if (s < 0 || s > 3 || form < 0 || form > 2) return Integer.MIN_VALUE;
        if (sheets[s] == null) found(1);
        else if (form(s) != form) found(3);
        else if (i < 0 || i >= size(s)) found(2);
        else return item(s, i);
        return Integer.MIN_VALUE;
    }

    int copy(int s, int i, int t, int j, int n) {
        if (s < 0 || s > 3 || t < 0 || t > 3) return BAD;
        if (sheets[s] == null || sheets[t] == null) return found(1);
        if (form(s) != form(t)) return found(4);
        if (i < 0 || j < 0 || n < 0 || (long) i + n > size(s) || (long) j + n > size(t)) return found(2);
        int[] held = new int[n];
        for (int k = 0; k < n; k++) held[k] = item(s, i + k);
        for (int k = 0; k < n; k++) enter(t, j + k, held[k]);
        return 1;
    }

    int write(int sleeper, int s) {
        if (sleeper < 0 || sleeper >= beds().size() || s < 0 || s > 3) return BAD;
        if (sheets[s] == null) return found(1);
        int many = 0;
        for (; many < 50 && many < size(s); many++) enter(s, many, depth(many, sleeper));
        return many;
    }

    int count(int what) {
        Past p = past();
        int all = 0;
        switch (what) {
            case 0: return beds().size();
            case 1: return acts().size();
            case 2: return texts[0].length();
            case 3: return texts[1].length();
            case 4: return proven(beds(), acts());
            case 5:
                for (int s = 0; s < beds().size(); s++) all += marks(p, acts(), s, NONE);
                return all;
            case 6:
                for (int s = 0; s < beds().size(); s++) all += wakings(p, s);
                return all;
            case 7: return tales.size();
            case 8: return finding;
            default: return BAD;
        }
    }

    long digest() {
        List<Long> all = new ArrayList<>();
        for (int k = 0; k <= 7; k++) all.add((long) count(k));
        all.add((long) fault(0));
        all.add((long) fault(1));
        for (int s = 0; s < beds().size(); s++) {
            for (int k = 0; k <= 3; k++) all.add((long) sleeper(s, k));
            for (int hour : new int[] {5, 20, 49}) all.add((long) depth(hour, s));
            for (int k = 0; k <= 1; k++) all.add((long) nights(s, k));
            for (int k = 0; k <= 1; k++) all.add((long) move(s, k));
            for (int k = 0; k <= 1; k++) all.add((long) feed(s, k));
        }
        for (int d = 0; d < acts().size(); d++) {
            for (int k = 0; k <= 2; k++) all.add((long) deed(d, k));
            for (int k = 0; k <= 2; k++) all.add((long) proof(d, k));
            all.add((long) place(d));
            all.add((long) need(d, NONE));
            all.add((long) need(d, 0));
            all.add(feign(5, d, 0));
            all.add(feign(5, d, 1));
            for (int s = 0; s < beds().size(); s++) {
                for (int k = 0; k <= 2; k++) all.add((long) hears(d, s, k));
            }
        }
        for (int sound = 0; sound <= 3; sound++) {
            all.add((long) quiet(4, sound, NONE));
            all.add((long) quiet(4, sound, 0));
        }
        all.add((long) best());
        all.add((long) byAll());
        all.add((long) never());
        all.add((long) ask());
        all.add((long) court(7, 8, 0));
        all.add((long) court(7, 8, 1));
        long h = 17;
        for (long one : all) h = 31 * h + one;
        return h;
    }
}
