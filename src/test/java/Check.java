import java.nio.charset.StandardCharsets;
import java.util.function.BooleanSupplier;
import java.util.function.IntSupplier;
import java.util.function.IntUnaryOperator;

/** What the tests share: answers compared and counted, texts told, sentences of the document named. */
class Check {
    static final int NONE = CanalKeeper.NONE;
    static final int NOTHING = CanalKeeper.NOTHING;
    static final int MIN = Integer.MIN_VALUE;
    static final int MAX = Integer.MAX_VALUE;
    private static final int KINDS_OF_REFUSAL = 6;
    private static int wrong;
    private static int compared;
    private static Quotes quotes;
    private static String said = "";

    Check() {
    }

    // ---- which sentence of the document a test is for

    /** From here on sentences are those of a part of the document; each of its words has to be said by then. */
    static void part(String title, String from, String behind) {
        endPart();
        quotes = new Quotes(title, from, behind);
    }

    static void promise(int number) {
        part("promise " + number, "## Promise " + number + ":", "\n## ");
    }

    private static void endPart() {
        said = "";
        if (quotes != null) {
            for (String words : quotes.unsaid()) {
                due(quotes.title + " has words without a test: " + words, 1, 0);
            }
        }
        quotes = null;
    }

    /** The answers compared from here on are due by these words of the document. */
    static void sentence(String words) {
        said = "";
        due(quotes.title + " does not say: " + words, quotes.say(words), true);
        said = quotes.title + ", \"" + words + "\": ";
    }

    // ---- answers

    static void due(String call, long got, long want) {
        compared++;
        if (got != want) {
            wrong++;
            if (wrong <= 50) {
                System.out.println(said + call + " answered " + got + ", due is " + want);
            }
        }
    }

    static void due(String call, boolean got, boolean want) {
        due(call, got ? 1 : 0, want ? 1 : 0);
    }

    static void finish() {
        endPart();
        System.out.println(compared + " answers compared, " + wrong + " are not as due");
        if (wrong != 0) {
            System.exit(1);
        }
    }

    static int wrongSoFar() {
        return wrong;
    }

    /** Each number of a row, asked one by one. */
    static void row(String call, IntUnaryOperator ask, int... want) {
        for (int i = 0; i < want.length; i++) {
            due(call + " of " + i, ask.applyAsInt(i), want[i]);
        }
    }

    /** Numbers outside of first .. last, the nearest and the farthest, all answer the same. */
    static void outside(String call, int first, int last, IntUnaryOperator ask, int want) {
        for (int n : new int[] {first - 1, first - 2, last + 1, last + 2, last + 256, last + 65536, MIN, MIN + 1, MAX}) {
            due(call + " of " + n, ask.applyAsInt(n), want);
        }
    }

    /** A call that is refused: it counts once, as its kind alone, and changes nothing that can be asked. */
    static void refused(String call, CanalKeeper k, int kind, IntSupplier ask) {
        int[] before = new int[KINDS_OF_REFUSAL];
        for (int i = 0; i < KINDS_OF_REFUSAL; i++) {
            before[i] = k.status(i);
        }
        String state = state(k);
        due(call, ask.getAsInt(), NONE);
        for (int i = 0; i < KINDS_OF_REFUSAL; i++) {
            due("status(" + i + ") behind " + call, k.status(i), before[i] + (i == kind ? 1 : 0));
        }
        due("all stays behind " + call, state(k).equals(state), true);
    }

    static void denied(String call, CanalKeeper k, int kind, BooleanSupplier ask) {
        refused(call, k, kind, () -> ask.getAsBoolean() ? 1 : NONE);
    }

    /** All that can be asked without a look AHEAD, as one text. */
    static String state(CanalKeeper k) {
        StringBuilder all = new StringBuilder();
        for (int what = 0; what <= 10; what++) {
            all.append(k.has(what)).append(' ').append(k.account(what)).append(' ').append(k.fault(what)).append(' ');
        }
        for (int i = 0; i < 16; i++) {
            for (int what = 0; what <= 8; what++) {
                all.append(k.pool(i, what)).append(' ').append(k.gate(i, what)).append(' ').append(k.row(i, what))
                    .append(' ').append(k.outlet(i, what)).append(' ').append(k.order(i, what)).append(' ')
                    .append(k.letter(0, i, what)).append(' ').append(k.letter(1, i, what)).append(' ');
            }
        }
        for (int i = 0; i < 40; i++) {
            for (int what = 0; what < 4; what++) {
                all.append(k.alarm(i, what)).append(' ').append(k.event(i, what)).append(' ');
                for (int pool = 0; pool < k.has(0); pool++) {
                    all.append(k.flow(pool, i + 1, what)).append(' ');
                }
            }
        }
        return all.toString();
    }

    // ---- texts

    static void tape(CanalKeeper keeper, String text) {
        tape(keeper, text.getBytes(StandardCharsets.ISO_8859_1));
    }

    static void tape(CanalKeeper keeper, byte[] bytes) {
        for (int at = 0; at < bytes.length; at += 20) {
            int[] n = new int[5];
            for (int i = 0; i < 20; i++) {
                int b = at + i < bytes.length ? bytes[at + i] & 255 : 32;
                n[i / 4] = n[i / 4] << 8 | b;
            }
            keeper.feed(n[0], n[1], n[2], n[3], n[4]);
        }
        keeper.end(bytes.length);
    }

    static CanalKeeper told(String text) {
        CanalKeeper keeper = new CanalKeeper();
        tape(keeper, text);
        int statements = keeper.canal();
        if (statements < 1) {
            due("canal() of " + text + " with fault " + keeper.fault(0) + " at " + keeper.fault(1), statements, 1);
        }
        return keeper;
    }

    /** A POOL's STATEMENT: holds, low, high, crest, delay, leak, gate, by, open. */
    static String pool(String name, int... n) {
        return "pool " + name + " holds " + n[0] + " low " + n[1] + " high " + n[2] + " crest " + n[3] + " delay "
            + n[4] + " leak " + n[5] + " gate " + n[6] + " by " + n[7] + " open " + n[8] + ";";
    }

    /** A STATEMENT n times; '#' stands for another letter each time, from b on. */
    static String times(int n, String statement) {
        StringBuilder text = new StringBuilder();
        for (int i = 0; i < n; i++) {
            text.append(statement.replace('#', (char) ('b' + i)));
        }
        return text.toString();
    }

    /** A text without a FAULT. */
    static void whole(String text, int statements) {
        CanalKeeper k = new CanalKeeper();
        tape(k, text);
        due("canal() of " + text, k.canal(), statements);
        due("fault(0) of " + text, k.fault(0), 0);
        due("fault(1) of " + text, k.fault(1), NONE);
        due("status(1) of " + text, k.status(1), 0);
    }

    /** A text with a FAULT; a '^' stands where it is due, and is taken out. */
    static void wrong(int kind, String marked) {
        int place = marked.indexOf('^');
        String text = marked.replace("^", "");
        CanalKeeper k = new CanalKeeper();
        tape(k, text);
        due("canal() of " + marked, k.canal(), NONE);
        due("fault(0) of " + marked, k.fault(0), kind);
        due("fault(1) of " + marked, k.fault(1), place);
        due("fault(2) of " + marked, k.fault(2), NONE);
        due("fault(-1) of " + marked, k.fault(-1), NONE);
        due("status(1) of " + marked, k.status(1), 1);
    }

    static int see(CanalKeeper keeper, int pool, int... stepsAndVolumes) {
        byte[] bytes = new byte[stepsAndVolumes.length / 2 * 3];
        for (int i = 0; i < stepsAndVolumes.length / 2; i++) {
            bytes[3 * i] = (byte) stepsAndVolumes[2 * i];
            bytes[3 * i + 1] = (byte) (stepsAndVolumes[2 * i + 1] >> 8);
            bytes[3 * i + 2] = (byte) stepsAndVolumes[2 * i + 1];
        }
        tape(keeper, bytes);
        return keeper.see(pool);
    }
}
