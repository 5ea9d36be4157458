import java.util.Arrays;

/**
 * A keeper of an irrigation canal: pools one behind the other, a gate at the head of each, rows of water on its
 * way that arrives after told steps, outlets that are open by orders and by turns. The words in capitals are those
 * of the document.
 */
public final class CanalKeeper {
    public static final int NONE = -1;
    public static final int NOTHING = -1000000;

    private static final int TAPE = 1600;
    private static final int FED = 20;

    private static final int POOLS = 8;
    private static final int OUTLETS = 10;
    private static final int ORDERS = 16;
    private static final int TURNS = 2;
    private static final int TURN_NAMES = 6;
    private static final int LETTERS = 6;
    private static final int LETTER_BITS = 5;
    private static final int FIRST_LETTER = 25;
    private static final int USUAL_GAIN = 4;
    private static final int MOST_GIVES = 999;
    private static final int MOST_GAIN = 99;
    private static final int MOST_LEAK = 99;
    private static final int MOST_MANY = 99;
    private static final int MOST_DELAY = 9;
    private static final int LAST_STEP = 9999;

    /** The numbers of a POOL, as they follow one another in its STATEMENT. */
    private static final int HOLDS = 0;
    private static final int LOW = 1;
    private static final int HIGH = 2;
    private static final int CREST = 3;
    private static final int DELAY = 4;
    private static final int LEAK = 5;
    private static final int MOST = 6;
    private static final int BY = 7;
    private static final int OPEN = 8;
    private static final int POOL_NUMBERS = 9;
    private static final int[] POOL_LEAST = {0, 0, 0, 0, 0, 0, 0, 1, 0};
    private static final int[] POOL_MOST = {9999, 9999, 9999, 9999, 9, 99, 999, 999, 999};

    /** The kinds of FAULT. */
    private static final int NO_TEXT = 1;
    private static final int NO_NUMBER = 2;
    private static final int NO_SUCH_NAME = 3;
    private static final int TOO_MANY = 5;

    private static final String OWN_WORDS =
        "canal gives keep pool holds low high crest delay leak gate by open outlet at takes order from for turns ";

    /** Where VOLUME stands to the BAND. */
    private static final int IN_BAND = 0;
    private static final int BELOW = 1;
    private static final int ABOVE = 2;

    /** What account() sums; 5 is counted anew when it is asked. */
    private static final int GIVEN = 0;
    private static final int TAKEN = 1;
    private static final int LEAKED = 2;
    private static final int OUT = 3;
    private static final int RAINED = 4;
    private static final int THERE = 5;
    private static final int SHORT = 6;
    private static final int SUMS = 7;

    /** Above every count and every key that can be. */
    private static final int FAR_ABOVE = 1000000000;

    private static final int AHEAD = 200;
    private static final int TOLD = 40;
    private static final int ALARM_NUMBERS = 3;
    private static final int FLOW_NUMBERS = 4;
    private static final int CAUSES = 8;
    private static final int UNDONE = 20;
    private static final int MOST_STEPS = 100;
    private static final int MOST_CHANCE = 60;
    private static final int MOST_LEAST = 60;
    private static final int MOST_GAIN_STEPS = 100;
    private static final int GAINS = 30;
    private static final int MOST_BEST = 40;
    private static final int STARTS = 60;
    private static final int ROWS = 10;
    private static final int ROW_BYTES = 3;
    private static final int SEEN_STEPS = 40;
    private static final int SEEN_LEAKS = 41;
    private static final int RAIN = 20;

    /** What status() counts. */
    private static final int BY_TAPE = 0;
    private static final int BY_CANAL = 1;
    private static final int BY_STEPS = 2;
    private static final int BY_ACTS = 3;
    private static final int BY_UNDO = 4;
    private static final int BY_SEED = 5;
    private static final int REFUSALS = 6;

    private final byte[] tape = new byte[TAPE];
    private int tapeLength;
    private final Reader reader = new Reader();
    private Works works = new Works();
    private Works spare = new Works();
    private boolean isTold;
    private int faultKind;
    private int faultPlace = NONE;
    private final Moment now = new Moment();
    /** A ring; its moments are made when they are first needed, so that an object without ACTS stays small. */
    private final Moment[] back = new Moment[UNDONE];
    private int backNext;
    private int backCount;
    private final Outlook outlook = new Outlook();
    private final Sight sight = new Sight();
    private int chanceSeed = 1;
    private final int[] refusals = new int[REFUSALS];

    public CanalKeeper() {
    }

    // ---- the tape and the text

    public int feed(int a, int b, int c, int d, int e) {
        if (tapeLength + FED > TAPE) {
            return refuse(BY_TAPE);
        }
        putNumber(a);
        putNumber(b);
        putNumber(c);
        putNumber(d);
        putNumber(e);
        return tapeLength;
    }

    public boolean end(int n) {
        if (n < 0 || n > tapeLength) {
            return deny(BY_TAPE);
        }
        tapeLength = n;
        return true;
    }

    public int canal() {
        boolean isRead = reader.readText(tape, tapeLength, spare);
        tapeLength = 0;
        faultKind = reader.fault;
        faultPlace = reader.place;
        if (!isRead) {
            return refuse(BY_CANAL);
        }
        Works old = works;
        works = spare;
        spare = old;
        isTold = true;
        now.beginWith(works);
        sight.rows = 0;
        backCount = 0;
        return works.statements;
    }

    public int fault(int what) {
        return switch (what) {
            case 0 -> faultKind;
            case 1 -> faultPlace;
            default -> NONE;
        };
    }

    // ---- what there is

    public int has(int what) {
        return switch (what) {
            case 0 -> works.pools;
            case 1 -> works.outlets;
            case 2 -> now.orders.count;
            case 3 -> now.water.step;
            case 4 -> now.water.gives;
            case 5 -> now.water.gain;
            case 6 -> now.log.toldCount();
            case 7 -> sight.rows;
            case 8 -> backCount;
            case 9 -> chanceSeed;
            case 10 -> poolsOutOfBand();
            default -> NONE;
        };
    }

    public int letter(int kind, int which, int k) {
        if (k < 0 || k >= LETTERS) {
            return NONE;
        }
        if (kind == 0 && isPool(which)) {
            return letterOf(works.poolName[which], k);
        }
        if (kind == 1 && isOutlet(which)) {
            return letterOf(works.outletName[which], k);
        }
        return NONE;
    }

    public int named(int kind) {
        int length = tapeLength;
        tapeLength = 0;
        int name = nameOnTape(length);
        if (name == 0) {
            return NONE;
        }
        return switch (kind) {
            case 0 -> works.poolOf(name);
            case 1 -> works.outletOf(name);
            default -> NONE;
        };
    }

    public int pool(int pool, int what) {
        if (!isPool(pool)) {
            return NONE;
        }
        int volume = now.water.volume[pool];
        return switch (what) {
            case 0 -> volume;
            case 1 -> works.told[LOW][pool];
            case 2 -> works.told[HIGH][pool];
            case 3 -> works.told[CREST][pool];
            case 4 -> works.told[DELAY][pool];
            case 5 -> now.water.leak[pool];
            case 6 -> now.water.onItsWay(pool);
            case 7 -> works.middle[pool];
            case 8 -> works.bandOf(pool, volume);
            default -> NONE;
        };
    }

    public int gate(int gate, int what) {
        if (!isPool(gate)) {
            return NONE;
        }
        return switch (what) {
            case 0 -> now.water.opening[gate];
            case 1 -> works.told[MOST][gate];
            case 2 -> works.told[BY][gate];
            case 3 -> works.heldIn(gate, now.water.wishOf(works, gate, loadAt(gate, now.water.step)));
            case 4 -> now.water.hand[gate];
            case 5 -> now.water.step > 0 ? now.log.flowOf(gate, now.water.step - 1, 3) : 0;
            default -> NONE;
        };
    }

    public int row(int pool, int k) {
        if (!isPool(pool) || k < 0 || k >= works.told[DELAY][pool]) {
            return NONE;
        }
        return now.water.arrivesIn(works, pool, k);
    }

    public int outlet(int outlet, int what) {
        if (!isOutlet(outlet)) {
            return NONE;
        }
        return switch (what) {
            case 0 -> works.outletPool[outlet];
            case 1 -> works.takes[outlet];
            case 2 -> works.isOpen(now.orders, outlet, now.water.step) ? 1 : 0;
            case 3 -> now.water.took[outlet];
            case 4 -> now.water.lacked[outlet];
            case 5 -> works.needs(0, works.outletPool[outlet]);
            default -> NONE;
        };
    }

    public int order(int order, int what) {
        if (!isOrder(order)) {
            return NONE;
        }
        return switch (what) {
            case 0 -> now.orders.outlet[order];
            case 1 -> now.orders.from[order];
            case 2 -> now.orders.many[order];
            case 3 -> now.orders.stateAt(order, now.water.step);
            default -> NONE;
        };
    }

    public int opens(int outlet, int step) {
        if (!isOutlet(outlet) || !isStep(step)) {
            return NONE;
        }
        return works.isOpen(now.orders, outlet, step) ? 1 : 0;
    }

    public int load(int gate, int step) {
        if (!isPool(gate) || !isStep(step)) {
            return NONE;
        }
        return loadAt(gate, step);
    }

    public int account(int what) {
        if (!isTold || what < 0 || what >= SUMS) {
            return NONE;
        }
        return what == THERE ? now.water.there(works.pools) : now.water.sums[what];
    }

    // ---- events, ranks, alarms

    public int event(int k, int what) {
        int count = now.orders.countEvents(now.water.step);
        if (k == NONE) {
            return count;
        }
        if (k < 0 || k >= count) {
            return NONE;
        }
        int key = now.orders.eventKey(k, now.water.step);
        return switch (what) {
            case 0 -> Orders.stepOfKey(key);
            case 1 -> Orders.outletOfKey(key);
            case 2 -> Orders.orderOfKey(key);
            case 3 -> Orders.beginsOfKey(key);
            default -> NONE;
        };
    }

    public int rank(int k) {
        for (int pool = 0; pool < works.pools; pool++) {
            if (countFarther(pool) == k) {
                return pool;
            }
        }
        return NONE;
    }

    public int alarm(int k, int what) {
        if (k < 0 || k >= now.log.toldCount() || what < 0 || what >= ALARM_NUMBERS) {
            return NONE;
        }
        return now.log.alarmNumber(k, what);
    }

    public int alarms(int pool, int cause) {
        if (cause < 1 || cause > CAUSES || (pool != NONE && !isPool(pool))) {
            return NONE;
        }
        return now.log.countAlarms(pool, cause);
    }

    public int flow(int pool, int k, int what) {
        if (!isPool(pool) || !wereSteps(k) || what < 0 || what >= FLOW_NUMBERS) {
            return NONE;
        }
        return now.log.flowOf(pool, now.water.step - k, what);
    }

    public int missing(int pool, int n) {
        if (!isPool(pool) || !wereSteps(n)) {
            return NOTHING;
        }
        int first = now.water.step - n;
        int sum = now.log.flowOf(pool, first, 2) - now.water.volume[pool];
        for (int k = 0; k < n; k++) {
            sum += now.log.flowOf(pool, first + k, 0) - now.log.flowOf(pool, first + k, 1);
        }
        return sum;
    }

    // ---- what comes

    public int later(int pool, int n) {
        if (!isPool(pool) || n < 0 || n > AHEAD) {
            return NONE;
        }
        outlook.look(works, now, n);
        outlook.run(n);
        return outlook.water.volume[pool];
    }

    public int opening(int gate, int n) {
        if (!isPool(gate) || n < 0 || n > AHEAD) {
            return NONE;
        }
        outlook.look(works, now, n);
        outlook.run(n);
        return outlook.water.opening[gate];
    }

    public int when(int pool, int what) {
        if (!isPool(pool)) {
            return NONE;
        }
        return switch (what) {
            case 0 -> outlook.firstTime(works, now, pool, BELOW);
            case 1 -> outlook.firstTime(works, now, pool, ABOVE);
            case 2 -> outlook.firstTime(works, now, pool, IN_BAND);
            default -> NONE;
        };
    }

    public int lacks(int outlet, int n) {
        if (!isTold || n < 1 || n > AHEAD || (outlet != NONE && !isOutlet(outlet))) {
            return NONE;
        }
        outlook.look(works, now, n);
        outlook.run(n);
        if (outlet == NONE) {
            return outlook.water.sums[SHORT] - now.water.sums[SHORT];
        }
        return outlook.water.lacked[outlet] - now.water.lacked[outlet];
    }

    public int least(int n) {
        if (works.pools == 0 || n < 1 || n > MOST_LEAST) {
            return NONE;
        }
        return outlook.leastGives(works, now, n);
    }

    public int gain(int n, int what) {
        if (works.pools == 0 || n < 1 || n > MOST_GAIN_STEPS || what < 0 || what > 1) {
            return NONE;
        }
        outlook.chooseGain(works, now, n);
        return what == 0 ? outlook.choice : outlook.times;
    }

    public int best(int gate, int n, int what) {
        if (!isPool(gate) || n < 1 || n > MOST_BEST || what < 0 || what > 1) {
            return NONE;
        }
        outlook.chooseHand(works, now, gate, n);
        return what == 0 ? outlook.choice : outlook.times;
    }

    public int fits(int outlet, int n) {
        if (!isOutlet(outlet) || n < 1 || n > MOST_MANY || now.orders.count >= ORDERS) {
            return NONE;
        }
        return outlook.firstHarmless(works, now, outlet, n);
    }

    // ---- what was seen

    public int see(int pool) {
        int length = tapeLength;
        tapeLength = 0;
        if (!isPool(pool) || !Sight.isTelling(tape, length)) {
            return refuse(BY_SEED);
        }
        sight.take(pool, tape, length);
        return sight.rows;
    }

    public int leaks(int k) {
        if (sight.rows == 0) {
            return NONE;
        }
        sight.findFits(outlook, works, now);
        if (k == NONE) {
            return sight.fitCount;
        }
        return k >= 0 && k < sight.fitCount ? sight.fitLeak[k] : NONE;
    }

    public int tells(int what) {
        if (sight.rows == 0 || what < 0 || what > 1) {
            return NONE;
        }
        sight.findFits(outlook, works, now);
        if (sight.fitCount == 0) {
            return NONE;
        }
        int steps = sight.telling();
        return what == 0 ? steps : sight.mostAlike(steps);
    }

    // ---- acts

    public int steps(int n) {
        if (!isTold || n < 1 || n > MOST_STEPS || now.water.step + n > LAST_STEP) {
            return refuse(BY_STEPS);
        }
        return goSteps(n, false);
    }

    public int chance(int n) {
        if (works.pools == 0 || n < 1 || n > MOST_CHANCE || now.water.step + n > LAST_STEP) {
            return refuse(BY_STEPS);
        }
        return goSteps(n, true);
    }

    public int ask(int outlet, int from, int many) {
        boolean canBe = from >= now.water.step && from <= LAST_STEP && many >= 1 && many <= MOST_MANY;
        if (!isOutlet(outlet) || !canBe || now.orders.count >= ORDERS) {
            return refuse(BY_ACTS);
        }
        remember();
        return now.orders.add(outlet, from, many);
    }

    public boolean cancel(int order) {
        if (!isOrder(order)) {
            return deny(BY_ACTS);
        }
        remember();
        now.orders.drop(order);
        return true;
    }

    public boolean hand(int gate, int wanted) {
        if (!isPool(gate) || wanted < NONE || wanted > works.told[MOST][gate] || wanted == now.water.hand[gate]) {
            return deny(BY_ACTS);
        }
        remember();
        now.water.hand[gate] = wanted;
        return true;
    }

    public boolean set(int what, int which, int v) {
        boolean isSet = switch (what) {
            case 0 -> changeLeak(which, v);
            case 1 -> which == 0 && changeGives(v);
            case 2 -> which == 0 && changeGain(v);
            default -> false;
        };
        return isSet || deny(BY_ACTS);
    }

    public boolean undo() {
        int latest = (backNext + UNDONE - 1) % UNDONE;
        if (backCount == 0 || back[latest] == null) {
            return deny(BY_UNDO);
        }
        now.copyFrom(back[latest]);
        backNext = latest;
        backCount--;
        return true;
    }

    public boolean seed(int seed) {
        if (seed < 0) {
            return deny(BY_SEED);
        }
        chanceSeed = seed;
        return true;
    }

    public int status(int what) {
        return what >= 0 && what < REFUSALS ? refusals[what] : NONE;
    }

    // ---- what the calls share

    private int refuse(int kind) {
        refusals[kind]++;
        return NONE;
    }

    private boolean deny(int kind) {
        refusals[kind]++;
        return false;
    }

    private boolean isPool(int pool) {
        return pool >= 0 && pool < works.pools;
    }

    private boolean isOutlet(int outlet) {
        return outlet >= 0 && outlet < works.outlets;
    }

    private boolean isOrder(int order) {
        return order >= 0 && order < now.orders.count;
    }

    private static boolean isStep(int step) {
        return step >= 0 && step <= LAST_STEP;
    }

    private boolean wereSteps(int n) {
        return n >= 1 && n <= TOLD && n <= now.water.step;
    }

    private void putNumber(int number) {
        for (int shift = 24; shift >= 0 && tapeLength < TAPE; shift -= 8) {
            tape[tapeLength] = (byte) (number >> shift);
            tapeLength++;
        }
    }

    private int nameOnTape(int length) {
        if (length > LETTERS) {
            return 0;
        }
        for (int i = 0; i < length; i++) {
            if (!Reader.isLetter(tape[i])) {
                return 0;
            }
        }
        return Reader.nameIn(tape, 0, length);
    }

    private static int letterOf(int name, int k) {
        return (name >> (FIRST_LETTER - LETTER_BITS * k)) & 31;
    }

    private int poolsOutOfBand() {
        int bits = 0;
        for (int pool = 0; pool < works.pools; pool++) {
            if (works.bandOf(pool, now.water.volume[pool]) != IN_BAND) {
                bits |= 1 << pool;
            }
        }
        return bits;
    }

    private int loadAt(int gate, int step) {
        int sum = 0;
        for (int pool = gate; pool < works.pools; pool++) {
            sum += now.water.leak[pool];
        }
        for (int outlet = 0; outlet < works.outlets; outlet++) {
            int pool = works.outletPool[outlet];
            if (pool >= gate && works.isOpen(now.orders, outlet, step + works.needs(gate, pool))) {
                sum += works.takes[outlet];
            }
        }
        return sum;
    }

    private int farFromMiddle(int pool) {
        return Math.abs(now.water.volume[pool] - works.middle[pool]);
    }

    private int countFarther(int pool) {
        int far = farFromMiddle(pool);
        int count = 0;
        for (int other = 0; other < works.pools; other++) {
            int otherFar = farFromMiddle(other);
            if (otherFar > far || (otherFar == far && other < pool)) {
                count++;
            }
        }
        return count;
    }

    private void remember() {
        if (back[backNext] == null) {
            back[backNext] = new Moment();
        }
        back[backNext].copyFrom(now);
        backNext = (backNext + 1) % UNDONE;
        backCount = Math.min(backCount + 1, UNDONE);
    }

    private int goSteps(int n, boolean rains) {
        remember();
        Schedule schedule = outlook.schedule;
        schedule.plan(works, now.orders, now.water.step, n);
        for (int i = 0; i < n; i++) {
            now.water.beginStep(works.pools);
            if (rains) {
                int pool = draw(works.pools);
                now.water.rainOn(pool, draw(RAIN));
            }
            now.water.goOn(works, schedule);
            now.log.noteStep(works, now.water);
        }
        return now.water.step;
    }

    private int draw(int m) {
        chanceSeed = (int) ((1103515245L * chanceSeed + 12345L) & 0x7fffffffL);
        return m > 0 ? (chanceSeed / 64) % m : 0;
    }

    private boolean changeLeak(int pool, int v) {
        if (!isPool(pool) || v < 0 || v > MOST_LEAK || v == now.water.leak[pool]) {
            return false;
        }
        remember();
        now.water.leak[pool] = v;
        return true;
    }

    private boolean changeGives(int v) {
        if (!isTold || v < 0 || v > MOST_GIVES || v == now.water.gives) {
            return false;
        }
        remember();
        now.water.gives = v;
        return true;
    }

    private boolean changeGain(int v) {
        if (!isTold || v < 1 || v > MOST_GAIN || v == now.water.gain) {
            return false;
        }
        remember();
        now.water.gain = v;
        return true;
    }

    /** What the text tells; it stays until another one is told. */
    private static final class Works {
        int statements;
        int gives;
        int gain;
        int pools;
        final int[] poolName = new int[POOLS];
        final int[][] told = new int[POOL_NUMBERS][POOLS];
        final int[] middle = new int[POOLS];
        int outlets;
        final int[] outletName = new int[OUTLETS];
        final int[] outletPool = new int[OUTLETS];
        final int[] takes = new int[OUTLETS];
        final Orders orders = new Orders();
        final Turns turns = new Turns();

        void clear() {
            statements = 0;
            gives = 0;
            gain = USUAL_GAIN;
            pools = 0;
            outlets = 0;
            orders.count = 0;
            turns.count = 0;
        }

        int poolOf(int name) {
            for (int i = 0; i < pools; i++) {
                if (poolName[i] == name) {
                    return i;
                }
            }
            return NONE;
        }

        int outletOf(int name) {
            for (int i = 0; i < outlets; i++) {
                if (outletName[i] == name) {
                    return i;
                }
            }
            return NONE;
        }

        int bandOf(int pool, int volume) {
            if (volume < told[LOW][pool]) {
                return BELOW;
            }
            return volume > told[HIGH][pool] ? ABOVE : IN_BAND;
        }

        int heldIn(int gate, int wish) {
            return Math.max(0, Math.min(wish, told[MOST][gate]));
        }

        /** How many STEPS water needs from a GATE to a POOL that is its own or below. */
        int needs(int gate, int pool) {
            int sum = 0;
            for (int i = gate; i <= pool && i < pools; i++) {
                sum += told[DELAY][i];
            }
            return sum;
        }

        /** The ORDERS are those of now, not of the text: they come and go. */
        boolean isOpen(Orders orders, int outlet, int step) {
            return orders.isOpen(outlet, step) || turns.isOpen(outlet, step);
        }
    }

    /** Rounds of OUTLETS that are OPEN one after the other. */
    private static final class Turns {
        int count;
        final int[] every = new int[TURNS];
        final int[] size = new int[TURNS];
        final int[][] member = new int[TURNS][TURN_NAMES];

        boolean holds(int turn, int outlet) {
            for (int i = 0; i < size[turn]; i++) {
                if (member[turn][i] == outlet) {
                    return true;
                }
            }
            return false;
        }

        boolean isOpen(int outlet, int step) {
            for (int turn = 0; turn < count; turn++) {
                if (every[turn] > 0 && size[turn] > 0
                        && member[turn][step / every[turn] % size[turn]] == outlet) {
                    return true;
                }
            }
            return false;
        }
    }

    private static final class Orders {
        int count;
        final int[] outlet = new int[ORDERS];
        final int[] from = new int[ORDERS];
        final int[] many = new int[ORDERS];

        void copyFrom(Orders other) {
            count = other.count;
            System.arraycopy(other.outlet, 0, outlet, 0, ORDERS);
            System.arraycopy(other.from, 0, from, 0, ORDERS);
            System.arraycopy(other.many, 0, many, 0, ORDERS);
        }

        int add(int ofOutlet, int fromStep, int howMany) {
            if (count >= ORDERS) {
                return NONE;
            }
            outlet[count] = ofOutlet;
            from[count] = fromStep;
            many[count] = howMany;
            count++;
            return count - 1;
        }

        void drop(int order) {
            for (int i = order; i + 1 < count; i++) {
                outlet[i] = outlet[i + 1];
                from[i] = from[i + 1];
                many[i] = many[i + 1];
            }
            count--;
        }

        boolean isOpen(int ofOutlet, int step) {
            for (int i = 0; i < count; i++) {
                if (outlet[i] == ofOutlet && step >= from[i] && step < from[i] + many[i]) {
                    return true;
                }
            }
            return false;
        }

        /** To come (0), going on (1), over (2). */
        int stateAt(int order, int step) {
            if (step < from[order]) {
                return 0;
            }
            return step < from[order] + many[order] ? 1 : 2;
        }

        int countEvents(int step) {
            return countKeysBelow(FAR_ABOVE, step);
        }

        /** No two EVENTS have one key, so the k-th is the one with k keys below its own. */
        int eventKey(int k, int step) {
            for (int i = 0; i < 2 * count; i++) {
                int key = keyOf(i / 2, i % 2);
                if (stepOfKey(key) >= step && countKeysBelow(key, step) == k) {
                    return key;
                }
            }
            return NONE;
        }

        private int countKeysBelow(int bound, int step) {
            int sum = 0;
            for (int i = 0; i < 2 * count; i++) {
                int key = keyOf(i / 2, i % 2);
                if (stepOfKey(key) >= step && key < bound) {
                    sum++;
                }
            }
            return sum;
        }

        /** Keys rise as EVENTS follow one another: STEP, OUTLET, ends ahead of beginnings, ORDER. */
        private int keyOf(int order, int begins) {
            int step = begins == 1 ? from[order] : from[order] + many[order];
            return ((step * 16 + outlet[order]) * 2 + begins) * 16 + order;
        }

        static int stepOfKey(int key) {
            return key / 512;
        }

        static int outletOfKey(int key) {
            return key / 32 % 16;
        }

        static int beginsOfKey(int key) {
            return key / 16 % 2;
        }

        static int orderOfKey(int key) {
            return key % 16;
        }
    }

    /** The state that a STEP starts from and changes. */
    private static final class Water {
        int step;
        int gives;
        int gain;
        final int[] volume = new int[POOLS];
        final int[] opening = new int[POOLS];
        final int[] leak = new int[POOLS];
        final int[] hand = new int[POOLS];
        /** Rings, one a POOL and DELAY long: what passes in a STEP takes the place of what arrives in it. */
        final int[] way = new int[POOLS * MOST_DELAY];
        final int[] took = new int[OUTLETS];
        final int[] lacked = new int[OUTLETS];
        final int[] sums = new int[SUMS];
        final Notes notes = new Notes();

        /** The notes stay behind: they are of use only within their STEP. */
        void copyFrom(Water other) {
            step = other.step;
            gives = other.gives;
            gain = other.gain;
            System.arraycopy(other.volume, 0, volume, 0, POOLS);
            System.arraycopy(other.opening, 0, opening, 0, POOLS);
            System.arraycopy(other.leak, 0, leak, 0, POOLS);
            System.arraycopy(other.hand, 0, hand, 0, POOLS);
            System.arraycopy(other.way, 0, way, 0, POOLS * MOST_DELAY);
            System.arraycopy(other.took, 0, took, 0, OUTLETS);
            System.arraycopy(other.lacked, 0, lacked, 0, OUTLETS);
            System.arraycopy(other.sums, 0, sums, 0, SUMS);
        }

        void beginWith(Works works) {
            step = 0;
            gives = works.gives;
            gain = works.gain;
            System.arraycopy(works.told[HOLDS], 0, volume, 0, POOLS);
            System.arraycopy(works.told[OPEN], 0, opening, 0, POOLS);
            System.arraycopy(works.told[LEAK], 0, leak, 0, POOLS);
            Arrays.fill(hand, NONE);
            Arrays.fill(way, 0);
            Arrays.fill(took, 0);
            Arrays.fill(lacked, 0);
            Arrays.fill(sums, 0);
        }

        int onItsWay(int pool) {
            int sum = 0;
            for (int i = 0; i < MOST_DELAY; i++) {
                sum += way[pool * MOST_DELAY + i];
            }
            return sum;
        }

        int there(int pools) {
            int sum = 0;
            for (int pool = 0; pool < pools; pool++) {
                sum += volume[pool] + onItsWay(pool);
            }
            return sum;
        }

        int arrivesIn(Works works, int pool, int k) {
            int delay = works.told[DELAY][pool];
            return delay > 0 ? way[pool * MOST_DELAY + (step + k) % delay] : 0;
        }

        /** WANTED, not held yet. */
        int wishOf(Works works, int gate, int load) {
            if (hand[gate] != NONE) {
                return hand[gate];
            }
            int off = works.middle[gate] - volume[gate];
            return gain > 0 ? load + off / gain : load;
        }

        void beginStep(int pools) {
            System.arraycopy(volume, 0, notes.ahead, 0, POOLS);
            for (int pool = 0; pool < pools; pool++) {
                notes.came[pool] = 0;
                notes.went[pool] = 0;
                notes.spilled[pool] = 0;
            }
        }

        void rainOn(int pool, int much) {
            volume[pool] += much;
            notes.came[pool] += much;
            sums[RAINED] += much;
        }

        void goOn(Works works, Schedule schedule) {
            arriveAndLeak(works);
            serveOutlets(works, schedule);
            passGates(works);
            spillOver(works);
            moveGates(works, schedule);
            step++;
        }

        private void arriveAndLeak(Works works) {
            for (int pool = 0; pool < works.pools; pool++) {
                int arrived = arrivesIn(works, pool, 0);
                volume[pool] += arrived;
                notes.came[pool] += arrived;
                int lost = Math.min(leak[pool], volume[pool]);
                volume[pool] -= lost;
                sums[LEAKED] += lost;
            }
        }

        private void serveOutlets(Works works, Schedule schedule) {
            for (int outlet = 0; outlet < works.outlets; outlet++) {
                if (schedule.isOpen(outlet, step)) {
                    int pool = works.outletPool[outlet];
                    int taken = Math.min(works.takes[outlet], volume[pool]);
                    int rest = works.takes[outlet] - taken;
                    volume[pool] -= taken;
                    notes.went[pool] += taken;
                    took[outlet] += taken;
                    lacked[outlet] += rest;
                    sums[TAKEN] += taken;
                    sums[SHORT] += rest;
                }
            }
        }

        private void passGates(Works works) {
            for (int gate = 0; gate < works.pools; gate++) {
                int passed = Math.min(opening[gate], gate == 0 ? gives : volume[gate - 1]);
                if (gate == 0) {
                    sums[GIVEN] += passed;
                } else {
                    volume[gate - 1] -= passed;
                    notes.went[gate - 1] += passed;
                }
                notes.opening[gate] = opening[gate];
                notes.passed[gate] = passed;
                int delay = works.told[DELAY][gate];
                if (delay > 0) {
                    way[gate * MOST_DELAY + step % delay] = passed;
                } else {
                    volume[gate] += passed;
                    notes.came[gate] += passed;
                }
            }
        }

        private void spillOver(Works works) {
            for (int pool = 0; pool < works.pools; pool++) {
                int over = volume[pool] - works.told[CREST][pool];
                if (over > 0) {
                    volume[pool] -= over;
                    notes.went[pool] += over;
                    if (pool + 1 < works.pools) {
                        volume[pool + 1] += over;
                        notes.came[pool + 1] += over;
                        notes.spilled[pool + 1] = over;
                    } else {
                        sums[OUT] += over;
                    }
                }
            }
        }

        private void moveGates(Works works, Schedule schedule) {
            int leaksBelow = 0;
            for (int gate = works.pools - 1; gate >= 0; gate--) {
                leaksBelow += leak[gate];
                int wish = wishOf(works, gate, leaksBelow + schedule.demandAt(gate, step + 1));
                notes.wish[gate] = wish;
                int by = works.told[BY][gate];
                int off = works.heldIn(gate, wish) - opening[gate];
                opening[gate] += Math.max(-by, Math.min(by, off));
            }
        }
    }

    /** What one STEP did, for what is KEPT and told of it. */
    private static final class Notes {
        final int[] ahead = new int[POOLS];
        final int[] came = new int[POOLS];
        final int[] went = new int[POOLS];
        final int[] passed = new int[POOLS];
        /** As it was when the GATE passed water, ahead of its move. */
        final int[] opening = new int[POOLS];
        /** What went over to the POOL. */
        final int[] spilled = new int[POOLS];
        /** WANTED, not held. */
        final int[] wish = new int[POOLS];
    }

    /** The ALARMS KEPT and the flows of the latest STEPS. */
    private static final class Log {
        int kept;
        final int[] alarms = new int[TOLD * ALARM_NUMBERS];
        final int[] flows = new int[TOLD * POOLS * FLOW_NUMBERS];

        void copyFrom(Log other) {
            kept = other.kept;
            System.arraycopy(other.alarms, 0, alarms, 0, TOLD * ALARM_NUMBERS);
            System.arraycopy(other.flows, 0, flows, 0, TOLD * POOLS * FLOW_NUMBERS);
        }

        int toldCount() {
            return Math.min(kept, TOLD);
        }

        int alarmNumber(int k, int what) {
            return alarms[(kept - toldCount() + k) % TOLD * ALARM_NUMBERS + what];
        }

        int countAlarms(int pool, int cause) {
            int sum = 0;
            for (int k = 0; k < toldCount(); k++) {
                if ((pool == NONE || alarmNumber(k, 1) == pool) && alarmNumber(k, 2) == cause) {
                    sum++;
                }
            }
            return sum;
        }

        int flowOf(int pool, int step, int what) {
            return flows[flowPlace(pool, step) + what];
        }

        private static int flowPlace(int pool, int step) {
            return (step % TOLD * POOLS + pool) * FLOW_NUMBERS;
        }

        /** Is called when the STEP is over, so the one to be noted is one less. */
        void noteStep(Works works, Water water) {
            int step = water.step - 1;
            for (int pool = 0; pool < works.pools; pool++) {
                int place = flowPlace(pool, step);
                flows[place] = water.notes.came[pool];
                flows[place + 1] = water.notes.went[pool];
                flows[place + 2] = water.notes.ahead[pool];
                flows[place + 3] = water.notes.passed[pool];
                int was = step == 0 ? IN_BAND : works.bandOf(pool, water.notes.ahead[pool]);
                int is = works.bandOf(pool, water.volume[pool]);
                if (is != IN_BAND && is != was) {
                    keepAlarm(step, pool, is == BELOW ? causeBelow(works, water, pool) : causeAbove(works, water, pool));
                }
            }
        }

        private void keepAlarm(int step, int pool, int cause) {
            int place = kept % TOLD * ALARM_NUMBERS;
            alarms[place] = step;
            alarms[place + 1] = pool;
            alarms[place + 2] = cause;
            kept++;
        }

        private static boolean isOffWanted(Works works, Water water, int gate) {
            return water.opening[gate] != works.heldIn(gate, water.notes.wish[gate]);
        }

        private static int causeBelow(Works works, Water water, int pool) {
            if (water.notes.passed[pool] < water.notes.opening[pool]) {
                return 1;
            }
            if (works.told[MOST][pool] < water.notes.wish[pool]) {
                return 2;
            }
            if (isOffWanted(works, water, pool)) {
                return 3;
            }
            return water.leak[pool] > 0 ? 4 : 5;
        }

        private static int causeAbove(Works works, Water water, int pool) {
            if (water.notes.spilled[pool] > 0) {
                return 6;
            }
            return isOffWanted(works, water, pool) ? 7 : 8;
        }
    }

    /** All that ACTS change, and so all that is put back when one is undone. */
    private static final class Moment {
        final Water water = new Water();
        final Orders orders = new Orders();
        final Log log = new Log();

        void copyFrom(Moment other) {
            water.copyFrom(other.water);
            orders.copyFrom(other.orders);
            log.copyFrom(other.log);
        }

        void beginWith(Works works) {
            water.beginWith(works);
            orders.copyFrom(works.orders);
            log.kept = 0;
        }
    }

    /** Which OUTLETS are OPEN, and what GATES have to pass for them, in STEPS to come: worked out once a call. */
    private static final class Schedule {
        private static final int SPAN = AHEAD + 1 + POOLS * MOST_DELAY;
        private int base;
        private int last;
        private int lastOpen;
        private final byte[][] open = new byte[OUTLETS][SPAN];
        private final int[][] demand = new int[POOLS][AHEAD + 1];

        void plan(Works works, Orders orders, int fromStep, int n) {
            base = fromStep;
            last = Math.min(n, AHEAD);
            lastOpen = Math.min(last + works.needs(0, works.pools - 1), SPAN - 1);
            for (int outlet = 0; outlet < works.outlets; outlet++) {
                planOutlet(works, orders, outlet);
            }
            sumDemands(works);
        }

        void planAgain(Works works, Orders orders, int outlet) {
            planOutlet(works, orders, outlet);
            sumDemands(works);
        }

        private void planOutlet(Works works, Orders orders, int outlet) {
            for (int i = 0; i <= lastOpen; i++) {
                open[outlet][i] = (byte) (works.isOpen(orders, outlet, base + i) ? 1 : 0);
            }
        }

        private void sumDemands(Works works) {
            for (int gate = 0; gate < works.pools; gate++) {
                for (int i = 0; i <= last; i++) {
                    demand[gate][i] = 0;
                }
                for (int outlet = 0; outlet < works.outlets; outlet++) {
                    if (works.outletPool[outlet] >= gate) {
                        addDemand(works, gate, outlet);
                    }
                }
            }
        }

        private void addDemand(Works works, int gate, int outlet) {
            int needs = works.needs(gate, works.outletPool[outlet]);
            for (int i = 0; i <= last && i + needs <= lastOpen; i++) {
                demand[gate][i] += open[outlet][i + needs] * works.takes[outlet];
            }
        }

        boolean isOpen(int outlet, int step) {
            int i = step - base;
            return i >= 0 && i <= lastOpen && open[outlet][i] == 1;
        }

        /** LOAD without LEAKS: these may be others in a look AHEAD. */
        int demandAt(int gate, int step) {
            int i = step - base;
            return i >= 0 && i <= last ? demand[gate][i] : 0;
        }
    }

    /** STEPS AHEAD, gone on copies. */
    private static final class Outlook {
        final Water water = new Water();
        final Orders orders = new Orders();
        final Schedule schedule = new Schedule();
        private Works works;
        private Moment start;
        int choice;
        int times;
        /** Whether the first GATE passed less than its OPENING in the latest run. */
        private boolean ranDry;

        void look(Works ofWorks, Moment from, int n) {
            works = ofWorks;
            start = from;
            schedule.plan(works, start.orders, start.water.step, n);
            water.copyFrom(start.water);
        }

        void lookAgain() {
            water.copyFrom(start.water);
        }

        void run(int n) {
            for (int i = 0; i < n; i++) {
                runOne();
            }
        }

        void runOne() {
            water.beginStep(works.pools);
            water.goOn(works, schedule);
        }

        int firstTime(Works ofWorks, Moment from, int pool, int band) {
            look(ofWorks, from, AHEAD);
            for (int i = 1; i <= AHEAD; i++) {
                runOne();
                if (works.bandOf(pool, water.volume[pool]) == band) {
                    return i;
                }
            }
            return NONE;
        }

        int leastGives(Works ofWorks, Moment from, int n) {
            look(ofWorks, from, n);
            ranDry = true;
            // Where the first GATE lacked nothing, more would change nothing.
            for (int gives = 0; gives <= MOST_GIVES && ranDry; gives++) {
                lookAgain();
                water.gives = gives;
                if (staysWithin(n, start.water.sums[SHORT])) {
                    return gives;
                }
            }
            return NONE;
        }

        /** Whether SHORT of all is at no time above a bound; it only rises, so the first time above it decides. */
        private boolean staysWithin(int n, int bound) {
            ranDry = false;
            for (int i = 0; i < n; i++) {
                runOne();
                ranDry |= water.notes.passed[0] < water.notes.opening[0];
                if (water.sums[SHORT] > bound) {
                    return false;
                }
            }
            return true;
        }

        void chooseGain(Works ofWorks, Moment from, int n) {
            look(ofWorks, from, n);
            times = FAR_ABOVE;
            for (int gain = 1; gain <= GAINS; gain++) {
                lookAgain();
                water.gain = gain;
                weigh(gain, timesOut(0, works.pools, n));
            }
        }

        void chooseHand(Works ofWorks, Moment from, int gate, int n) {
            look(ofWorks, from, n);
            times = FAR_ABOVE;
            // What the GATE can't reach in these STEPS is like the highest that it can.
            int reached = start.water.opening[gate] + works.told[BY][gate] * n;
            for (int wanted = 0; wanted <= Math.min(works.told[MOST][gate], reached); wanted++) {
                lookAgain();
                water.hand[gate] = wanted;
                weigh(wanted, timesOut(gate, gate + 1, n));
            }
        }

        private void weigh(int candidate, int itsTimes) {
            if (itsTimes < times) {
                times = itsTimes;
                choice = candidate;
            }
        }

        private int timesOut(int firstPool, int endPool, int n) {
            int sum = 0;
            for (int i = 0; i < n; i++) {
                runOne();
                for (int pool = firstPool; pool < endPool; pool++) {
                    if (works.bandOf(pool, water.volume[pool]) != IN_BAND) {
                        sum++;
                    }
                }
            }
            return sum;
        }

        int firstHarmless(Works ofWorks, Moment from, int outlet, int many) {
            look(ofWorks, from, AHEAD);
            run(AHEAD);
            int without = water.sums[SHORT];
            int step = start.water.step;
            orders.copyFrom(start.orders);
            int added = orders.add(outlet, step, many);
            for (int i = 0; i < STARTS && added != NONE; i++) {
                orders.from[added] = step + i;
                schedule.planAgain(works, orders, outlet);
                lookAgain();
                if (staysWithin(AHEAD, without)) {
                    return step + i;
                }
            }
            return NONE;
        }
    }

    /** What is SEEN of a POOL, and the LEAKS that fit it. */
    private static final class Sight {
        int rows;
        private int pool;
        private final int[] seenStep = new int[ROWS];
        private final int[] seenVolume = new int[ROWS];
        int fitCount;
        final int[] fitLeak = new int[SEEN_LEAKS];
        /** The VOLUMES of the POOL behind STEPS AHEAD, a row for each of the FITS. */
        private final int[][] volumes = new int[SEEN_LEAKS][SEEN_STEPS + 1];

        static boolean isTelling(byte[] tape, int length) {
            if (length < ROW_BYTES || length > ROWS * ROW_BYTES || length % ROW_BYTES != 0) {
                return false;
            }
            for (int i = 0; i < length; i += ROW_BYTES) {
                int steps = tape[i] & 255;
                if (steps < 1 || steps > SEEN_STEPS) {
                    return false;
                }
            }
            return true;
        }

        void take(int ofPool, byte[] tape, int length) {
            pool = ofPool;
            rows = Math.min(length / ROW_BYTES, ROWS);
            for (int i = 0; i < rows; i++) {
                seenStep[i] = tape[i * ROW_BYTES] & 255;
                seenVolume[i] = (tape[i * ROW_BYTES + 1] & 255) * 256 + (tape[i * ROW_BYTES + 2] & 255);
            }
        }

        void findFits(Outlook outlook, Works works, Moment now) {
            outlook.look(works, now, SEEN_STEPS);
            fitCount = 0;
            for (int leak = 0; leak < SEEN_LEAKS; leak++) {
                outlook.lookAgain();
                outlook.water.leak[pool] = leak;
                for (int i = 1; i <= SEEN_STEPS; i++) {
                    outlook.runOne();
                    volumes[fitCount][i] = outlook.water.volume[pool];
                }
                if (isAsSeen(volumes[fitCount])) {
                    fitLeak[fitCount] = leak;
                    fitCount++;
                }
            }
        }

        private boolean isAsSeen(int[] volume) {
            for (int i = 0; i < rows; i++) {
                if (volume[seenStep[i]] != seenVolume[i]) {
                    return false;
                }
            }
            return true;
        }

        int telling() {
            int first = 1;
            int fewest = FAR_ABOVE;
            for (int i = 1; i <= SEEN_STEPS; i++) {
                int left = mostAlike(i);
                if (left < fewest) {
                    fewest = left;
                    first = i;
                }
            }
            return first;
        }

        /** How many FITS are left at the most, once VOLUME behind so many STEPS is known. */
        int mostAlike(int steps) {
            int most = 0;
            for (int i = 0; i < fitCount; i++) {
                int alike = 0;
                for (int j = 0; j < fitCount; j++) {
                    if (volumes[i][steps] == volumes[j][steps]) {
                        alike++;
                    }
                }
                most = Math.max(most, alike);
            }
            return most;
        }
    }

    /** Reads a text from the tape into Works, up to its first FAULT. */
    private static final class Reader {
        private byte[] text;
        private int length;
        private int at;
        /** Whether a word or a number ended right here, so that the next one would need a blank. */
        private boolean isTight;
        private int nameAt;
        private Works works;
        int fault;
        int place;

        boolean readText(byte[] tape, int tapeLength, Works into) {
            text = tape;
            length = tapeLength;
            works = into;
            works.clear();
            at = 0;
            isTight = false;
            fault = 0;
            place = NONE;
            for (int i = 0; i <= length; i++) {
                skipBlanks();
                if (at >= length) {
                    break;
                }
                if (!readStatement()) {
                    return false;
                }
                works.statements++;
            }
            return works.statements > 0 || fail(NO_TEXT, length);
        }

        private boolean fail(int kind, int where) {
            fault = kind;
            place = where;
            return false;
        }

        private boolean readStatement() {
            if (works.statements == 0) {
                return readCanal();
            }
            if (stands("keep")) {
                return readKeep();
            }
            if (stands("pool")) {
                return works.pools < POOLS ? readPool() : fail(TOO_MANY, at);
            }
            if (stands("outlet")) {
                return works.outlets < OUTLETS ? readOutlet() : fail(TOO_MANY, at);
            }
            if (stands("order")) {
                return works.orders.count < ORDERS ? readOrder() : fail(TOO_MANY, at);
            }
            if (stands("turns")) {
                return works.turns.count < TURNS ? readTurns() : fail(TOO_MANY, at);
            }
            return fail(NO_TEXT, at);
        }

        private boolean readCanal() {
            if (!readWord("canal") || !readWord("gives")) {
                return false;
            }
            works.gives = readNumber(0, MOST_GIVES);
            return fault == 0 && readSign(';');
        }

        private boolean readKeep() {
            if (!readWord("keep")) {
                return false;
            }
            works.gain = readNumber(1, MOST_GAIN);
            return fault == 0 && readSign(';');
        }

        private boolean readPool() {
            int pool = works.pools;
            if (!readWord("pool")) {
                return false;
            }
            works.poolName[pool] = readName();
            askName(isNew(works.poolName[pool]));
            for (int what = 0; what < POOL_NUMBERS && fault == 0; what++) {
                if (readWord(poolWord(what))) {
                    works.told[what][pool] = readNumber(leastOf(what, pool), mostOf(what, pool));
                }
            }
            if (fault != 0 || !readSign(';')) {
                return false;
            }
            works.middle[pool] = (works.told[LOW][pool] + works.told[HIGH][pool]) / 2;
            works.pools++;
            return true;
        }

        private static String poolWord(int what) {
            return switch (what) {
                case HOLDS -> "holds";
                case LOW -> "low";
                case HIGH -> "high";
                case CREST -> "crest";
                case DELAY -> "delay";
                case LEAK -> "leak";
                case MOST -> "gate";
                case BY -> "by";
                default -> "open";
            };
        }

        private int leastOf(int what, int pool) {
            return switch (what) {
                case HIGH -> works.told[LOW][pool];
                case CREST -> works.told[HIGH][pool];
                default -> POOL_LEAST[what];
            };
        }

        private int mostOf(int what, int pool) {
            return what == OPEN ? works.told[MOST][pool] : POOL_MOST[what];
        }

        private boolean readOutlet() {
            int outlet = works.outlets;
            if (!readWord("outlet")) {
                return false;
            }
            works.outletName[outlet] = readName();
            askName(isNew(works.outletName[outlet]));
            if (fault != 0 || !readWord("at")) {
                return false;
            }
            works.outletPool[outlet] = works.poolOf(readName());
            askName(works.outletPool[outlet] != NONE);
            if (fault != 0 || !readWord("takes")) {
                return false;
            }
            works.takes[outlet] = readNumber(1, 99);
            if (fault != 0 || !readSign(';')) {
                return false;
            }
            works.outlets++;
            return true;
        }

        private boolean readOrder() {
            if (!readWord("order")) {
                return false;
            }
            int outlet = works.outletOf(readName());
            askName(outlet != NONE);
            if (fault != 0 || !readWord("from")) {
                return false;
            }
            int from = readNumber(0, 999);
            if (fault != 0 || !readWord("for")) {
                return false;
            }
            int many = readNumber(1, MOST_MANY);
            if (fault != 0 || !readSign(';')) {
                return false;
            }
            works.orders.add(outlet, from, many);
            return true;
        }

        private boolean readTurns() {
            Turns turns = works.turns;
            int turn = turns.count;
            turns.size[turn] = 0;
            if (!readWord("turns")) {
                return false;
            }
            turns.every[turn] = readNumber(1, 30);
            if (fault != 0 || !readTurnName(turn) || !readSign(',') || !readTurnName(turn)) {
                return false;
            }
            for (int names = 2; names < TURN_NAMES && standsSign(','); names++) {
                if (!readSign(',') || !readTurnName(turn)) {
                    return false;
                }
            }
            if (standsSign(',')) {
                return failBehindLastTurn();
            }
            if (!readSign(';')) {
                return false;
            }
            turns.count++;
            return true;
        }

        private boolean readTurnName(int turn) {
            Turns turns = works.turns;
            int outlet = works.outletOf(readName());
            askName(outlet != NONE && !turns.holds(turn, outlet));
            if (fault != 0 || turns.size[turn] >= TURN_NAMES) {
                return false;
            }
            turns.member[turn][turns.size[turn]] = outlet;
            turns.size[turn]++;
            return true;
        }

        /** Whatever stands behind the sign would be one NAME too many, but nothing is no NAME. */
        private boolean failBehindLastTurn() {
            at++;
            skipBlanks();
            return at < length ? fail(TOO_MANY, at) : fail(NO_TEXT, length);
        }

        /** Lets a NAME just read stand or not; a FAULT that is there already stays. */
        private void askName(boolean isRight) {
            if (fault == 0 && !isRight) {
                fail(NO_SUCH_NAME, nameAt);
            }
        }

        private boolean isNew(int name) {
            return works.poolOf(name) == NONE && works.outletOf(name) == NONE;
        }

        /** A NAME as a number, its letters side by side; 0 with a FAULT. */
        private int readName() {
            skipBlanks();
            nameAt = at;
            int behind = wordEnd(at);
            if (isTight || behind == at) {
                fail(NO_TEXT, at);
                return 0;
            }
            if (behind - at > LETTERS) {
                fail(NO_TEXT, at + LETTERS);
                return 0;
            }
            int name = nameIn(text, at, behind);
            if (isOwnWord(name)) {
                fail(NO_TEXT, at);
                return 0;
            }
            at = behind;
            isTight = true;
            return name;
        }

        private int readNumber(int least, int most) {
            skipBlanks();
            int behind = at;
            int value = 0;
            while (behind < length && behind < at + 4 && isDigit(text[behind])) {
                value = value * 10 + (text[behind] - '0');
                behind++;
            }
            if (isTight || behind == at) {
                fail(NO_TEXT, at);
            } else if (behind == at + 4 && behind < length && isDigit(text[behind])) {
                fail(NO_TEXT, behind);
            } else if (value < least || value > most) {
                fail(NO_NUMBER, at);
            }
            at = behind;
            isTight = true;
            return value;
        }

        private boolean readWord(String word) {
            skipBlanks();
            if (isTight || !stands(word)) {
                return fail(NO_TEXT, at);
            }
            at += word.length();
            isTight = true;
            return true;
        }

        private boolean readSign(char sign) {
            if (!standsSign(sign)) {
                return fail(NO_TEXT, at);
            }
            at++;
            isTight = false;
            return true;
        }

        private boolean standsSign(char sign) {
            skipBlanks();
            return at < length && text[at] == sign;
        }

        /** Whether the whole word that begins here is this one. */
        private boolean stands(String word) {
            if (wordEnd(at) != at + word.length()) {
                return false;
            }
            for (int i = 0; i < word.length(); i++) {
                if (text[at + i] != word.charAt(i)) {
                    return false;
                }
            }
            return true;
        }

        private int wordEnd(int from) {
            int behind = from;
            while (behind < length && isLetter(text[behind])) {
                behind++;
            }
            return behind;
        }

        private void skipBlanks() {
            while (at < length && (text[at] == 10 || text[at] == 32)) {
                at++;
                isTight = false;
            }
        }

        static boolean isLetter(byte sign) {
            return sign >= 'a' && sign <= 'z';
        }

        private static boolean isDigit(byte sign) {
            return sign >= '0' && sign <= '9';
        }

        /** Up to six letters, five bits each, the first one highest. */
        static int nameIn(byte[] text, int from, int behind) {
            int name = 0;
            int shift = FIRST_LETTER;
            for (int i = from; i < behind; i++) {
                name |= (text[i] - 'a' + 1) << shift;
                shift -= LETTER_BITS;
            }
            return name;
        }

        private static boolean isOwnWord(int name) {
            int word = 0;
            int shift = FIRST_LETTER;
            for (int i = 0; i < OWN_WORDS.length(); i++) {
                char sign = OWN_WORDS.charAt(i);
                if (sign != ' ') {
                    word |= (sign - 'a' + 1) << shift;
                    shift -= LETTER_BITS;
                } else if (word == name) {
                    return true;
                } else {
                    word = 0;
                    shift = FIRST_LETTER;
                }
            }
            return false;
        }
    }
}
