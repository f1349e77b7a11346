import java.util.Random;

/** Runs of calls by fixed seeds, each asked of the program and of the slow model. */
public final class ModelTest {
    private static final int RUNS = 300, CALLS = 512, KINDS = 34;

    private final Due due = new Due();
    private Random lots;
    private SleptWitness x;
    private Model m;
    private String run;
    private int left;

    public static void main(String[] args) {
        ModelTest test = new ModelTest();
        for (int run = 0; run < RUNS; run++) {
            test.run(run);
        }
        test.due.end("ModelTest");
    }

    private void run(int number) {
        run = "run " + number + ": ";
        lots = new Random(number);
        x = new SleptWitness();
        m = new Model();
        left = CALLS;
        typeUnits(0, number % 9);
        typeUnits(1, number / 9 % 9);
        // A step makes some sixty calls at most, and an object is promised for 512 alone.
        while (left > 70) {
            step(lots.nextInt(KINDS + 2));
        }
    }

    private void same(String call, long got, long want) {
        left--;
        due.is(run + call, got, want);
    }

    /** Mostly a number that may be, now and then one beside it or a wild one. */
    private int num(int low, int high) {
        int dice = lots.nextInt(40);
        if (dice == 0) {
            return Due.WILD[lots.nextInt(Due.WILD.length)];
        }
        if (dice == 1) {
            return low - 1;
        }
        return dice == 2 ? high + 1 : low + lots.nextInt(high - low + 1);
    }

    private int one(int many) {
        return num(0, Math.max(0, many - 1));
    }

    private int s() {
        return one(m.count(0));
    }

    private int d() {
        return one(m.count(1));
    }

    private void typeByte(int text, int b) {
        same("type(" + text + ", " + b + ")", x.type(text, b), m.type(text, b));
    }

    private void typeUnits(int text, int many) {
        // DEEDS come thick in few HOURS, so that they wake one another's hearers.
        int from = lots.nextInt(40);
        for (int k = 0; k < many; k++) {
            if (m.count(2 + text) != 0) {
                typeByte(text, ';');
            }
            int hour = from + lots.nextInt(1 + lots.nextInt(10));
            int first = text == 0 ? lots.nextInt(10) : hour / 10;
            int second = text == 0 ? lots.nextInt(10) : hour % 10;
            typeByte(text, '0' + first);
            typeByte(text, '0' + second);
            typeByte(text, '0' + lots.nextInt(text == 0 ? 4 : 10));
            typeByte(text, (text == 0 ? "yowiyow" : "kvfdkvf").charAt(lots.nextInt(7)));
        }
    }

    private void retype(int text) {
        same("wipe(" + text + ")", x.wipe(text), m.wipe(text));
        typeUnits(text, lots.nextInt(9));
        same("fault(" + text + ")", x.fault(text), m.fault(text));
    }

    /** A few wrong bytes, seen and taken back. */
    private void spoil(int text) {
        int many = 1 + lots.nextInt(4);
        for (int k = 0; k < many; k++) {
            int b = lots.nextInt(3) == 0 ? lots.nextInt(256) : "0123456789yowikvfd;".charAt(lots.nextInt(19));
            typeByte(text, b);
            same("fault(" + text + ")", x.fault(text), m.fault(text));
        }
        same("digest() spoilt", x.digest(), m.digest());
        for (int k = 0; k < many; k++) {
            same("undo(" + text + ")", x.undo(text), m.undo(text));
            same("fault(" + text + ")", x.fault(text), m.fault(text));
        }
    }

    private void step(int kind) {
        if (kind < 8) {
            stepTexts(kind);
        } else if (kind < 18) {
            stepNights(kind);
        } else if (kind < 26) {
            stepTold(kind);
        } else {
            stepSheets(kind);
        }
    }

    private void stepTexts(int kind) {
        int text = num(0, 1);
        int a;
        int b;
        switch (kind) {
            case 0: if (lots.nextInt(8) == 0) retype(lots.nextInt(2)); break;
            case 1: if (lots.nextInt(8) == 0) spoil(lots.nextInt(2)); break;
            case 2: same("undo(" + text + ")", x.undo(text), m.undo(text)); break;
            case 3: same("fault(" + text + ")", x.fault(text), m.fault(text)); break;
            case 4: a = s(); b = num(0, 3); same("sleeper(" + a + ", " + b + ")", x.sleeper(a, b), m.sleeper(a, b)); break;
            case 5: a = d(); b = num(0, 2); same("deed(" + a + ", " + b + ")", x.deed(a, b), m.deed(a, b)); break;
            case 6: a = num(0, 2); b = num(0, 9); same("law(" + a + ", " + b + ")", x.law(a, b), m.law(a, b)); break;
            default: same("law(2, 2)", x.law(2, 2), m.law(2, 2)); break;
        }
    }

    private void stepNights(int kind) {
        int s = s();
        int d = d();
        int what = num(0, 2);
        int a = num(0, 9);
        int b = num(0, 3);
        int i = num(-1, 49);
        String sw = s + ", " + what + ")";
        String dw = d + ", " + what + ")";
        switch (kind) {
            case 8: same("depth(" + i + ", " + s, x.depth(i, s), m.depth(i, s)); break;
            case 9: same("hears(" + d + ", " + sw, x.hears(d, s, what), m.hears(d, s, what)); break;
            case 10: same("proof(" + dw, x.proof(d, what), m.proof(d, what)); break;
            case 11: same("nights(" + sw, x.nights(s, what), m.nights(s, what)); break;
            case 12: same("best()", x.best(), m.best()); break;
            case 13: same("byAll()", x.byAll(), m.byAll()); break;
            case 14: same("quiet(" + a + ", " + b + ", " + i + ")", x.quiet(a, b, i), m.quiet(a, b, i)); break;
            case 15: same("move(" + sw, x.move(s, what), m.move(s, what)); break;
            case 16: i = num(-1, 1); same("need(" + d + ", " + i + ")", x.need(d, i), m.need(d, i)); break;
            default: same("feed(" + sw, x.feed(s, what), m.feed(s, what)); break;
        }
    }

    private void stepTold(int kind) {
        int s = s();
        int d = d();
        int sound = num(0, 3);
        int n = num(0, lots.nextInt(4) == 0 ? 8 : 2);
        int what = num(0, 1);
        int c = num(0, 16);
        int seed = lots.nextInt();
        switch (kind) {
            case 18: same("told(" + s + ", " + sound + ", " + n + ")", x.told(s, sound, n), m.told(s, sound, n)); break;
            case 19: if (lots.nextInt(3) == 0) same("forget()", x.forget(), m.forget()); break;
            case 20: readTales(); break;
            case 21: same("never()", x.never(), m.never()); break;
            case 22: same("place(" + d + ")", x.place(d), m.place(d)); break;
            case 23: same("ask()", x.ask(), m.ask()); break;
            case 24: same("feign(" + c + ", " + d + ", " + what + ")", x.feign(c, d, what), m.feign(c, d, what)); break;
            default: n = num(1, 8); same("court(" + seed + ", " + n + ", " + what + ")", x.court(seed, n, what), m.court(seed, n, what)); break;
        }
    }

    private void readTales() {
        int s = num(0, 3);
        int form = lots.nextInt(3);
        if (lots.nextInt(3) != 0) {
            int size = lots.nextInt(12);
            same("sheet(" + s + ", " + form + ", " + size + ")", x.sheet(s, form, size), m.sheet(s, form, size));
            for (int i = 0; i < size; i++) {
                int v = i % 3 == 1 ? num(0, 3) : num(0, 2);
                same("put(" + s + ", " + form + ", " + i + ", " + v + ")", x.put(s, form, i, v), m.put(s, form, i, v));
            }
        }
        same("read(" + s + ")", x.read(s), m.read(s));
    }

    private void stepSheets(int kind) {
        int s = num(0, 3);
        int t = num(0, 3);
        int form = num(0, 2);
        int i = num(0, lots.nextInt(2) == 0 ? 4 : 59);
        int j = num(0, lots.nextInt(2) == 0 ? 4 : 59);
        int n = num(0, lots.nextInt(2) == 0 ? 4 : 60);
        int v = lots.nextInt() >> lots.nextInt(32);
        int sleeper = s();
        switch (kind) {
            case 26: same("sheet(" + s + ", " + form + ", " + n + ")", x.sheet(s, form, n), m.sheet(s, form, n)); break;
            case 27: if (lots.nextInt(4) == 0) same("lose(" + s + ")", x.lose(s), m.lose(s)); break;
            case 28: same("put(" + s + ", " + form + ", " + i + ", " + v + ")", x.put(s, form, i, v), m.put(s, form, i, v)); break;
            case 29: same("get(" + s + ", " + form + ", " + i + ")", x.get(s, form, i), m.get(s, form, i)); break;
            case 30: same("copy(" + s + ", " + i + ", " + t + ", " + j + ", " + n + ")", x.copy(s, i, t, j, n), m.copy(s, i, t, j, n)); break;
            case 31: same("write(" + sleeper + ", " + s + ")", x.write(sleeper, s), m.write(sleeper, s)); break;
            case 32: if (lots.nextInt(8) == 0) same("digest()", x.digest(), m.digest()); break;
            default: n = num(0, 8); same("count(" + n + ")", x.count(n), m.count(n)); break;
        }
    }
}
