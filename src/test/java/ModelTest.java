import java.nio.charset.StandardCharsets;
import java.util.Random;

/** Runs of calls by a fixed seed, each answered by the class and by the model. */
public final class ModelTest {
    private static Random random;
    private static CanalKeeper keeper;
    private static Model model;
    private static String run;

    private ModelTest() {
    }

    public static void main(String[] args) {
        int from = args.length > 0 ? Integer.parseInt(args[0]) : 1;
        int many = args.length > 1 ? Integer.parseInt(args[1]) : 120;
        for (int i = from; i < from + many && Check.wrongSoFar() == 0; i++) {
            random = new Random(i);
            keeper = new CanalKeeper();
            model = new Model();
            run = "run " + i;
            oneRun();
        }
        Check.finish();
    }

    private static int in(int lo, int hi) {
        return lo + random.nextInt(hi - lo + 1);
    }

    private static boolean once(int in) {
        return random.nextInt(in) == 0;
    }

    private static void same(String call, int got, int want) {
        Check.due(run + ", step " + model.has(3) + ": " + call, got, want);
    }

    private static void same(String call, boolean got, boolean want) {
        Check.due(run + ", step " + model.has(3) + ": " + call, got, want);
    }

    private static void oneRun() {
        if (once(10)) {
            askAll();
        }
        tell(new Texts(random).whole());
        askAll();
        for (int i = 0; i < 40 && Check.wrongSoFar() == 0; i++) {
            if (once(25)) {
                tell(new Texts(random).spoilt());
            } else if (once(60)) {
                tell(new Texts(random).whole());
            } else if (once(8)) {
                sightRows();
            } else {
                act();
            }
            askSome();
        }
        askAll();
        for (int i = 0; i < 25; i++) {
            same("undo()", keeper.undo(), model.undo());
            if (once(3)) {
                askCheap();
            }
        }
        askAll();
    }

    private static void tape(byte[] bytes) {
        for (int at = 0; at < bytes.length; at += 20) {
            int[] n = new int[5];
            for (int i = 0; i < 20; i++) {
                n[i / 4] = n[i / 4] << 8 | (at + i < bytes.length ? bytes[at + i] & 255 : in(0, 255));
            }
            same("feed", keeper.feed(n[0], n[1], n[2], n[3], n[4]), model.feed(n));
        }
        int behind = once(40) ? in(-1, 1700) : bytes.length;
        same("end(" + behind + ")", keeper.end(behind), model.end(behind));
    }

    private static void tell(String text) {
        tape(text.getBytes(StandardCharsets.ISO_8859_1));
        same("canal() of " + text, keeper.canal(), model.canal());
        for (int what = -1; what <= 2; what++) {
            same("fault(" + what + ") of " + text, keeper.fault(what), model.fault(what));
        }
    }

    private static void sightRows() {
        int pool = in(-1, 8);
        int rows = once(5) ? in(0, 12) : in(1, 3);
        byte[] bytes = new byte[Math.max(0, rows * 3 - (once(10) ? 1 : 0))];
        for (int i = 0; i + 2 < bytes.length; i += 3) {
            int steps = once(20) ? in(0, 255) : in(1, 40);
            int volume = once(4) ? in(0, 65535) : Math.max(0, model.later(pool, steps));
            bytes[i] = (byte) steps;
            bytes[i + 1] = (byte) (volume >> 8);
            bytes[i + 2] = (byte) volume;
        }
        tape(bytes);
        same("see(" + pool + ")", keeper.see(pool), model.see(pool));
        askSeen();
    }

    private static void act() {
        if (model.now == null) {
            return;
        }
        int which = in(-1, 8);
        switch (random.nextInt(9)) {
            case 0, 1 -> {
                int n = once(20) ? in(-1, 101) : in(1, 12);
                same("steps(" + n + ")", keeper.steps(n), model.steps(n));
            }
            case 2 -> {
                int n = once(20) ? in(-1, 61) : in(1, 12);
                same("chance(" + n + ")", keeper.chance(n), model.chance(n));
            }
            case 3 -> {
                int from = model.has(3) + (once(10) ? in(-2, 9999) : in(-2, 30));
                int many = once(10) ? in(-1, 101) : in(1, 12);
                same("ask(" + which + ", " + from + ", " + many + ")", keeper.ask(which, from, many),
                    model.ask(which, from, many));
            }
            case 4 -> same("cancel(" + which + ")", keeper.cancel(which), model.cancel(which));
            case 5 -> {
                int wanted = once(3) ? -1 : in(-2, Math.max(model.gate(which, 1), 0) + 1);
                same("hand(" + which + ", " + wanted + ")", keeper.hand(which, wanted), model.hand(which, wanted));
            }
            case 6 -> {
                int what = in(-1, 3);
                int v = once(10) ? in(-5, 1100) : in(0, 20);
                int to = what == 0 || once(6) ? which : 0;
                same("set(" + what + ", " + to + ", " + v + ")", keeper.set(what, to, v), model.set(what, to, v));
            }
            case 7 -> same("undo()", keeper.undo(), model.undo());
            default -> {
                int seed = once(3) ? random.nextInt() : in(0, 1000);
                same("seed(" + seed + ")", keeper.seed(seed), model.seed(seed));
            }
        }
    }

    private static void askSome() {
        askCheap();
        if (once(4)) {
            askAhead();
        }
        if (once(12)) {
            askDear();
        }
        if (once(5)) {
            askSeen();
        }
    }

    private static void askAll() {
        askCheap();
        askAhead();
        askDear();
        askSeen();
    }

    private static void askCheap() {
        for (int what = -1; what <= 11; what++) {
            same("has(" + what + ")", keeper.has(what), model.has(what));
            same("account(" + what + ")", keeper.account(what), model.account(what));
            same("status(" + what + ")", keeper.status(what), model.status(what));
        }
        for (int i = -1; i <= 17; i++) {
            for (int what = -1; what <= 9; what++) {
                String at = "(" + i + ", " + what + ")";
                same("pool" + at, keeper.pool(i, what), model.pool(i, what));
                same("gate" + at, keeper.gate(i, what), model.gate(i, what));
                same("row" + at, keeper.row(i, what), model.row(i, what));
                same("outlet" + at, keeper.outlet(i, what), model.outlet(i, what));
                same("order" + at, keeper.order(i, what), model.order(i, what));
                same("alarms" + at, keeper.alarms(i, what), model.alarms(i, what));
            }
            same("rank(" + i + ")", keeper.rank(i), model.rank(i));
            int step = once(20) ? in(-2, 10001) : model.has(3) + in(-3, 40);
            same("opens(" + i + ", " + step + ")", keeper.opens(i, step), model.opens(i, step));
            same("load(" + i + ", " + step + ")", keeper.load(i, step), model.load(i, step));
            int k = in(-1, 41);
            int what = in(-1, 4);
            same("flow(" + i + ", " + k + ", " + what + ")", keeper.flow(i, k, what), model.flow(i, k, what));
            same("missing(" + i + ", " + k + ")", keeper.missing(i, k), model.missing(i, k));
            int kind = in(-1, 2);
            int letter = in(-1, 6);
            same("letter(" + kind + ", " + i + ", " + letter + ")", keeper.letter(kind, i, letter),
                model.letter(kind, i, letter));
        }
        for (int i = -2; i <= 41; i++) {
            for (int what = -1; what <= 4; what++) {
                same("event(" + i + ", " + what + ")", keeper.event(i, what), model.event(i, what));
                same("alarm(" + i + ", " + what + ")", keeper.alarm(i, what), model.alarm(i, what));
            }
        }
        if (once(3)) {
            askName();
        }
    }

    private static void askName() {
        int kind = in(-1, 2);
        byte[] name = Texts.NAMES[random.nextInt(Texts.NAMES.length)].getBytes(StandardCharsets.ISO_8859_1);
        if (once(5)) {
            name[random.nextInt(name.length)] = (byte) in(0, 255);
        }
        tape(name);
        same("named(" + kind + ")", keeper.named(kind), model.named(kind));
    }

    private static void askAhead() {
        int n = once(10) ? in(-1, 201) : in(0, 40);
        for (int i = -1; i <= 10; i++) {
            same("later(" + i + ", " + n + ")", keeper.later(i, n), model.later(i, n));
            same("opening(" + i + ", " + n + ")", keeper.opening(i, n), model.opening(i, n));
            same("lacks(" + i + ", " + n + ")", keeper.lacks(i, n), model.lacks(i, n));
        }
        int pool = in(-1, 3);
        for (int what = -1; what <= 3; what++) {
            same("when(" + pool + ", " + what + ")", keeper.when(pool, what), model.when(pool, what));
        }
    }

    private static void askDear() {
        int n = once(10) ? in(-1, 61) : in(1, 12);
        same("least(" + n + ")", keeper.least(n), model.least(n));
        n = once(20) ? in(-1, 101) : in(1, 20);
        int what = in(-1, 2);
        same("gain(" + n + ", " + what + ")", keeper.gain(n, what), model.gain(n, what));
        int gate = in(-1, 3);
        n = once(10) ? in(-1, 41) : in(1, 12);
        same("best(" + gate + ", " + n + ", 0)", keeper.best(gate, n, 0), model.best(gate, n, 0));
        same("best(" + gate + ", " + n + ", " + what + ")", keeper.best(gate, n, what), model.best(gate, n, what));
        int outlet = in(-1, 4);
        n = once(10) ? in(-1, 100) : in(1, 20);
        same("fits(" + outlet + ", " + n + ")", keeper.fits(outlet, n), model.fits(outlet, n));
    }

    private static void askSeen() {
        for (int k = -2; k <= 3; k++) {
            same("leaks(" + k + ")", keeper.leaks(k), model.leaks(k));
        }
        for (int what = -1; what <= 2; what++) {
            same("tells(" + what + ")", keeper.tells(what), model.tells(what));
        }
    }
}
