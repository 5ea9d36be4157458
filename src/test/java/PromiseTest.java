/** Promises 1 and 6 to 42, worked out by hand: ordinary inputs, edges, wrong inputs. */
public final class PromiseTest extends Check {
    private static final String ONE = "canal gives 10;pool a holds 20 low 10 high 30 crest 40 delay 2 leak 1 gate 15 "
        + "by 4 open 6;outlet x at a takes 5;order x from 3 for 2;";

    private PromiseTest() {
    }

    public static void main(String[] args) {
        newObject();
        whatThereIs();
        names();
        oneCanal();
        turnsAndLoads();
        farAhead();
        waterGoesDown();
        alarmsByCause();
        alarmsTold();
        eventsInTheirOrder();
        ranks();
        flows();
        whatComes();
        leastGiven();
        bestGain();
        bestByHand();
        oneMoreOrder();
        seenAndLeaks();
        stepsThatGo();
        rainBySeed();
        ordersAskedAndCancelled();
        gatesByHand();
        otherSettings();
        actsUndone();
        withoutPools();
        finish();
    }

    private static void newObject() {
        CanalKeeper k = new CanalKeeper();
        for (int what = 0; what <= 10; what++) {
            due("new: has(" + what + ")", k.has(what), what == 9 ? 1 : 0);
        }
        due("new: fault(0)", k.fault(0), 0);
        due("new: fault(1)", k.fault(1), -1);
        due("new: account(0)", k.account(0), -1);
        due("new: set(2, 0, 5)", k.set(2, 0, 5), false);
        due("new: hand(0, -1)", k.hand(0, -1), false);
        due("new: steps(1)", k.steps(1), -1);
        due("new: chance(1)", k.chance(1), -1);
        due("new: lacks(-1, 1)", k.lacks(-1, 1), -1);
        due("new: feed", k.feed(1, 2, 3, 4, 5), 20);
        for (int what = 0; what <= 5; what++) {
            due("new: status(" + what + ")", k.status(what), what == 2 || what == 3 ? 2 : 0);
        }
        due("NONE", CanalKeeper.NONE, -1);
        due("NOTHING", CanalKeeper.NOTHING, -1000000);
    }

    private static void whatThereIs() {
        CanalKeeper k = told("canal gives 8;" + pool("a", 5, 10, 20, 30, 0, 0, 0, 1, 0)
            + pool("b", 15, 10, 20, 30, 0, 0, 0, 1, 0) + pool("c", 25, 10, 21, 30, 0, 0, 0, 1, 0)
            + "outlet x at b takes 3;order x from 1 for 1;order x from 9 for 1;");
        int[] want = {3, 1, 2, 0, 8, 4, 0, 0, 0, 1, 5};
        for (int what = 0; what < want.length; what++) {
            due("has(" + what + ")", k.has(what), want[what]);
        }
        for (int what : new int[] {-1, 11, MIN, MAX}) {
            due("has(" + what + ")", k.has(what), -1);
        }
        due("MIDDLE is cut", k.pool(2, 7), 15);
        for (int pool = 0; pool < 3; pool++) {
            due("band of " + pool, k.pool(pool, 8), new int[] {1, 0, 2}[pool]);
        }
        for (int which : new int[] {-1, 3, MIN, MAX}) {
            due("pool(" + which + ", 0)", k.pool(which, 0), -1);
            due("gate(" + which + ", 0)", k.gate(which, 0), -1);
            due("pool(0, " + (which * 3) + ")", k.pool(0, which * 3), -1);
        }
        due("has(7) ahead of see", k.has(7), 0);
        see(k, 1, 1, 15, 2, 12);
        due("has(7)", k.has(7), 2);
        k.set(2, 0, 7);
        k.set(1, 0, 9);
        k.seed(5);
        due("has(4)", k.has(4), 9);
        due("has(5)", k.has(5), 7);
        due("has(8)", k.has(8), 2);
        due("has(9)", k.has(9), 5);
    }

    private static void names() {
        CanalKeeper k = told("canal gives 8;" + pool("abz", 5, 10, 20, 30, 0, 0, 0, 1, 0)
            + pool("zzzzzz", 5, 10, 20, 30, 0, 0, 0, 1, 0) + "outlet ab at abz takes 3;outlet q at zzzzzz takes 1;");
        int[] abz = {1, 2, 26, 0, 0, 0};
        for (int i = 0; i < 6; i++) {
            due("letter(0, 0, " + i + ")", k.letter(0, 0, i), abz[i]);
            due("letter(0, 1, " + i + ")", k.letter(0, 1, i), 26);
            due("letter(1, 1, " + i + ")", k.letter(1, 1, i), i == 0 ? 17 : 0);
        }
        due("letter(0, 0, 6)", k.letter(0, 0, 6), -1);
        due("letter(0, 0, -1)", k.letter(0, 0, -1), -1);
        due("letter(0, 2, 0)", k.letter(0, 2, 0), -1);
        due("letter(1, -1, 0)", k.letter(1, -1, 0), -1);
        due("letter(2, 0, 0)", k.letter(2, 0, 0), -1);
        due("letter(-1, 0, 0)", k.letter(-1, 0, 0), -1);
        String[] texts = {"abz", "zzzzzz", "ab", "q", "", "abzz", "zzzzz", "zzzzzzz", " q", "q ", "Q", "pool", "\u00f1"};
        int[] pools = {0, 1, -1, -1, -1, -1, -1, -1, -1, -1, -1, -1, -1};
        int[] outlets = {-1, -1, 0, 1, -1, -1, -1, -1, -1, -1, -1, -1, -1};
        for (int i = 0; i < texts.length; i++) {
            tape(k, texts[i]);
            due("named(0) of " + texts[i], k.named(0), pools[i]);
            tape(k, texts[i]);
            due("named(1) of " + texts[i], k.named(1), outlets[i]);
            tape(k, texts[i]);
            due("named(2) of " + texts[i], k.named(2), -1);
            due("the tape went", k.feed(0, 0, 0, 0, 0), 20);
            k.end(0);
        }
    }

    /** The STEPS of ONE, by hand: VOLUME, OPENING, what passed, behind each. */
    private static final int[] VOLUME = {20, 19, 18, 23, 23, 23, 24};
    private static final int[] OPENING = {6, 6, 6, 2, 1, 1, 0};
    private static final int[] PASSED = {0, 6, 6, 6, 2, 1, 1};
    private static final int[] WAY = {0, 6, 12, 12, 8, 3, 2};

    private static void oneCanal() {
        CanalKeeper k = told(ONE);
        CanalKeeper still = told(ONE);
        for (int t = 0; t < VOLUME.length; t++) {
            due("later(0, " + t + ")", still.later(0, t), VOLUME[t]);
            due("opening(0, " + t + ")", still.opening(0, t), OPENING[t]);
            due("pool(0, 0) at " + t, k.pool(0, 0), VOLUME[t]);
            due("pool(0, 6) at " + t, k.pool(0, 6), WAY[t]);
            due("gate(0, 0) at " + t, k.gate(0, 0), OPENING[t]);
            due("gate(0, 5) at " + t, k.gate(0, 5), PASSED[t]);
            due("row(0, 1) at " + t, k.row(0, 1), PASSED[t]);
            due("row(0, 0) at " + t, k.row(0, 0), t == 0 ? 0 : PASSED[t - 1]);
            due("row(0, 2) at " + t, k.row(0, 2), -1);
            due("outlet(0, 2) at " + t, k.outlet(0, 2), t == 3 || t == 4 ? 1 : 0);
            due("outlet(0, 3) at " + t, k.outlet(0, 3), t <= 3 ? 0 : t == 4 ? 5 : 10);
            due("order(0, 3) at " + t, k.order(0, 3), t < 3 ? 0 : t < 5 ? 1 : 2);
            due("account(2) at " + t, k.account(2), t);
            due("account(5) at " + t, k.account(5), VOLUME[t] + WAY[t]);
            due("steps(1)", k.steps(1), t + 1);
        }
        int[] gate = {6, 15, 4, 1};
        for (int what = 0; what < gate.length; what++) {
            due("gate(0, " + what + ")", still.gate(0, what), gate[what]);
        }
        int[] outlet = {0, 5, 0, 0, 0, 2, -1};
        for (int what = 0; what < outlet.length; what++) {
            due("outlet(0, " + what + ")", still.outlet(0, what), outlet[what]);
        }
        int[] order = {0, 3, 2, 0, -1};
        for (int what = 0; what < order.length; what++) {
            due("order(0, " + what + ")", still.order(0, what), order[what]);
        }
        due("row(1, 0)", still.row(1, 0), -1);
        due("row(0, -1)", still.row(0, -1), -1);
        due("outlet(1, 0)", still.outlet(1, 0), -1);
        due("outlet(0, -1)", still.outlet(0, -1), -1);
        due("order(1, 0)", still.order(1, 0), -1);
        due("order(-1, 0)", still.order(-1, 0), -1);
        due("order(0, -1)", still.order(0, -1), -1);
    }

    private static void turnsAndLoads() {
        CanalKeeper k = told("canal gives 8;" + pool("a", 5, 0, 20, 30, 1, 2, 9, 1, 0)
            + pool("b", 5, 0, 20, 30, 2, 3, 9, 1, 0) + "outlet x at a takes 10;outlet y at b takes 20;"
            + "outlet z at b takes 40;turns 3 x,y;turns 2 y,z,x;");
        // By threes: x x x y y y; by twos: y y z z x x.
        int[] x = {1, 1, 1, 0, 1, 1, 1, 1, 1};
        int[] y = {1, 1, 0, 1, 1, 1, 1, 1, 0};
        int[] z = {0, 0, 1, 1, 0, 0, 0, 0, 1};
        for (int t = 0; t < 9; t++) {
            due("opens(0, " + t + ")", k.opens(0, t), x[t]);
            due("opens(1, " + t + ")", k.opens(1, t), y[t]);
            due("opens(2, " + t + ")", k.opens(2, t), z[t]);
        }
        for (int t = 0; t < 6; t++) {
            due("load(0, " + t + ")", k.load(0, t), 5 + 10 * x[t + 1] + 20 * y[t + 3] + 40 * z[t + 3]);
            due("load(1, " + t + ")", k.load(1, t), 3 + 20 * y[t + 2] + 40 * z[t + 2]);
        }
        // 3333 by twos is 1, y; 4999 by threes is 1, z.
        due("opens(0, 9999)", k.opens(0, 9999), 0);
        due("opens(1, 9999)", k.opens(1, 9999), 1);
        due("opens(2, 9999)", k.opens(2, 9999), 1);
        due("opens(0, 10000)", k.opens(0, 10000), -1);
        due("opens(0, -1)", k.opens(0, -1), -1);
        due("opens(3, 0)", k.opens(3, 0), -1);
        due("opens(-1, 0)", k.opens(-1, 0), -1);
        due("load(0, 9999)", k.load(0, 9999) >= 5, true);
        due("load(0, 10000)", k.load(0, 10000), -1);
        due("load(0, -1)", k.load(0, -1), -1);
        due("load(2, 0)", k.load(2, 0), -1);
        due("outlet(1, 5)", k.outlet(1, 5), 3);
        // LEAKS count without any OUTLET below, and change with what is set.
        k.set(0, 1, 50);
        due("load(0, 0) with another leak", k.load(0, 0), 52 + 10 * x[1] + 20 * y[3] + 40 * z[3]);
    }

    /** As far ahead as can be: 8 DELAYS of 9 behind 200 STEPS. */
    private static void farAhead() {
        StringBuilder text = new StringBuilder("canal gives 5;");
        for (char name = 'a'; name <= 'h'; name++) {
            text.append(pool("" + name, 9, 9, 9, 9, 9, 0, 99, 99, 0));
        }
        text.append("outlet x at h takes 7;order x from 272 for 1;");
        CanalKeeper k = told(text.toString());
        due("load(0, 200)", k.load(0, 200), 7);
        due("opening(0, 199)", k.opening(0, 199), 0);
        due("opening(0, 200)", k.opening(0, 200), 7);
        due("outlet(0, 5)", k.outlet(0, 5), 72);
        due("gate(0, 3)", k.gate(0, 3), 0);
        k.steps(100);
        k.steps(100);
        due("gate(0, 0)", k.gate(0, 0), 7);
        due("gate(0, 3)", k.gate(0, 3), 7);
        k.steps(1);
        due("gate(0, 0)", k.gate(0, 0), 0);
    }

    /** Two OUTLETS at one POOL by numbers, GATES by numbers with DELAY 0, water over two CRESTS. */
    private static void waterGoesDown() {
        CanalKeeper k = told("canal gives 9;" + pool("a", 12, 0, 20, 20, 0, 0, 30, 30, 20)
            + pool("b", 1, 0, 4, 4, 0, 0, 30, 30, 30) + pool("c", 3, 0, 5, 5, 1, 0, 4, 1, 4)
            + "outlet x at a takes 8;outlet y at a takes 7;order x from 0 for 1;order y from 0 for 1;");
        k.hand(0, 20);
        k.hand(1, 30);
        k.hand(2, 4);
        k.steps(1);
        // a: 12, x takes 8, y takes 4 and lacks 3; 9 come and go on to b: 10; c takes 4 of them; b keeps 4, 2 go over.
        due("x took", k.outlet(0, 3), 8);
        due("y took", k.outlet(1, 3), 4);
        due("y is short", k.outlet(1, 4), 3);
        due("SHORT in all", k.account(6), 3);
        due("TAKEN", k.account(1), 12);
        due("GIVEN", k.account(0), 9);
        due("a", k.pool(0, 0), 0);
        due("b", k.pool(1, 0), 4);
        due("c", k.pool(2, 0), 5);
        due("on its way to c", k.pool(2, 6), 4);
        due("passed by 1", k.gate(1, 5), 9);
        due("passed by 2", k.gate(2, 5), 4);
        due("OUT", k.account(3), 0);
        due("came to c", k.flow(2, 1, 0), 2);
        due("went from b", k.flow(1, 1, 1), 6);
        due("went from a", k.flow(0, 1, 1), 21);
        due("came to b", k.flow(1, 1, 0), 9);
        k.steps(1);
        // c: 4 arrive, 9 come from b (4 pass, the rest goes over): all above 5 goes out.
        due("c", k.pool(2, 0), 5);
        due("OUT", k.account(3), 9);
        due("there", k.account(5), 4 + 5 + 4);
        due("account(7)", k.account(7), -1);
        due("account(-1)", k.account(-1), -1);
    }

    private static void firstAlarm(String text, int pool, int cause) {
        CanalKeeper k = told(text);
        k.steps(1);
        due("one alarm of " + text, k.has(6), 1);
        due("its step of " + text, k.alarm(0, 0), 0);
        due("its pool of " + text, k.alarm(0, 1), pool);
        due("its cause of " + text, k.alarm(0, 2), cause);
        for (int c = 1; c <= 8; c++) {
            due("alarms(NONE, " + c + ") of " + text, k.alarms(-1, c), c == cause ? 1 : 0);
            due("alarms(pool, " + c + ") of " + text, k.alarms(pool, c), c == cause ? 1 : 0);
        }
    }

    private static void alarmsByCause() {
        firstAlarm("canal gives 0;" + pool("a", 5, 10, 20, 30, 0, 1, 9, 1, 1), 0, 1);
        firstAlarm("canal gives 9;" + pool("a", 5, 10, 20, 30, 0, 1, 0, 1, 0), 0, 2);
        firstAlarm("canal gives 9;" + pool("a", 5, 10, 20, 30, 0, 1, 9, 1, 0), 0, 3);
        // WANTED is 3, and so is MOST: that is no 2.
        firstAlarm("canal gives 9;" + pool("a", 5, 10, 20, 30, 0, 1, 3, 9, 0), 0, 4);
        firstAlarm("canal gives 9;" + pool("a", 10, 10, 10, 30, 0, 1, 9, 9, 0), 0, 4);
        firstAlarm("canal gives 9;" + pool("a", 10, 10, 10, 30, 0, 0, 9, 9, 0)
            + "outlet x at a takes 1;order x from 0 for 1;", 0, 5);
        firstAlarm("canal gives 9;" + pool("a", 10, 0, 5, 5, 0, 0, 9, 9, 0) + pool("b", 0, 0, 2, 9, 0, 0, 0, 1, 0), 1, 6);
        firstAlarm("canal gives 0;" + pool("a", 10, 0, 5, 20, 0, 0, 9, 1, 9), 0, 7);
        firstAlarm("canal gives 0;" + pool("a", 10, 0, 5, 20, 0, 0, 9, 1, 0), 0, 8);
        // At the edges of its BAND a POOL is in it.
        CanalKeeper k = told("canal gives 0;" + pool("a", 5, 5, 9, 20, 0, 0, 9, 1, 0)
            + pool("b", 9, 5, 9, 20, 0, 0, 0, 1, 0));
        k.steps(1);
        due("no alarm in the band", k.has(6), 0);
        // From below to above at once: that is another ALARM; staying is none.
        k = told("canal gives 50;" + pool("a", 0, 5, 5, 90, 0, 0, 99, 99, 0));
        k.hand(0, 10);
        k.steps(3);
        due("two alarms", k.has(6), 2);
        due("the first's cause", k.alarm(0, 2), 5);
        due("the second's step", k.alarm(1, 0), 1);
        due("the second's cause", k.alarm(1, 2), 8);
        // Two POOLS in one STEP: by numbers.
        k = told("canal gives 0;" + pool("a", 0, 5, 5, 90, 0, 0, 0, 1, 0) + pool("b", 9, 5, 5, 90, 0, 0, 0, 1, 0));
        k.steps(1);
        due("alarm(0, 1)", k.alarm(0, 1), 0);
        due("alarm(0, 2)", k.alarm(0, 2), 2);
        due("alarm(1, 1)", k.alarm(1, 1), 1);
        due("alarm(1, 2)", k.alarm(1, 2), 8);
    }

    private static void alarmsTold() {
        CanalKeeper k = told("canal gives 50;" + pool("a", 10, 10, 10, 90, 0, 0, 9, 9, 3)
            + "outlet x at a takes 5;outlet y at a takes 1;turns 1 x,y;");
        k.hand(0, 3);
        k.steps(80);
        due("has(6)", k.has(6), 40);
        due("alarm(0, 0)", k.alarm(0, 0), 0);
        due("alarm(39, 0)", k.alarm(39, 0), 78);
        k.steps(20);
        due("has(6)", k.has(6), 40);
        due("alarm(0, 0)", k.alarm(0, 0), 20);
        due("alarm(39, 0)", k.alarm(39, 0), 98);
        due("alarm(40, 0)", k.alarm(40, 0), -1);
        due("alarm(-1, 0)", k.alarm(-1, 0), -1);
        due("alarm(0, 3)", k.alarm(0, 3), -1);
        due("alarm(0, -1)", k.alarm(0, -1), -1);
        due("alarms(0, 5)", k.alarms(0, 5), 40);
        due("alarms(-1, 5)", k.alarms(-1, 5), 40);
        due("alarms(-1, 8)", k.alarms(-1, 8), 0);
        due("alarms(1, 5)", k.alarms(1, 5), -1);
        due("alarms(-2, 5)", k.alarms(-2, 5), -1);
        due("alarms(0, 0)", k.alarms(0, 0), -1);
        due("alarms(0, 9)", k.alarms(0, 9), -1);
        k.undo();
        for (int i = 0; i < 40; i++) {
            due("alarm(" + i + ", 0) undone", k.alarm(i, 0), 2 * i);
        }
        k.undo();
        due("has(6) undone", k.has(6), 0);
    }

    private static void eventsInTheirOrder() {
        CanalKeeper k = told("canal gives 0;" + pool("a", 10, 0, 10, 90, 0, 0, 9, 9, 3)
            + "outlet x at a takes 5;outlet y at a takes 1;order x from 2 for 3;order x from 5 for 1;"
            + "order y from 5 for 5;order x from 5 for 2;");
        int[][] want = {{2, 0, 0, 1}, {5, 0, 0, 0}, {5, 0, 1, 1}, {5, 0, 3, 1}, {5, 1, 2, 1}, {6, 0, 1, 0},
            {7, 0, 3, 0}, {10, 1, 2, 0}};
        due("event(-1, 99)", k.event(-1, 99), 8);
        for (int i = 0; i < want.length; i++) {
            for (int what = 0; what < 4; what++) {
                due("event(" + i + ", " + what + ")", k.event(i, what), want[i][what]);
            }
        }
        due("event(0, 4)", k.event(0, 4), -1);
        due("event(0, -1)", k.event(0, -1), -1);
        due("event(8, 0)", k.event(8, 0), -1);
        due("event(-2, 0)", k.event(-2, 0), -1);
        k.steps(5);
        due("now or later", k.event(-1, 0), 7);
        due("event(0, 3)", k.event(0, 3), 0);
        k.steps(1);
        due("behind 5", k.event(-1, 0), 3);
        due("event(0, 0)", k.event(0, 0), 6);
        k.steps(5);
        due("behind all", k.event(-1, 0), 0);
    }

    private static void ranks() {
        CanalKeeper k = told("canal gives 0;" + pool("a", 7, 0, 20, 90, 0, 0, 0, 1, 0)
            + pool("b", 18, 0, 21, 90, 0, 0, 0, 1, 0) + pool("c", 13, 0, 20, 90, 0, 0, 0, 1, 0)
            + pool("d", 2, 0, 20, 90, 0, 0, 0, 1, 0));
        // Far: 3, 8, 3, 8.
        int[] want = {1, 3, 0, 2, -1};
        for (int i = 0; i < want.length; i++) {
            due("rank(" + i + ")", k.rank(i), want[i]);
        }
        due("rank(-1)", k.rank(-1), -1);
    }

    private static void flows() {
        CanalKeeper k = told(ONE);
        due("flow ahead of any", k.flow(0, 1, 0), -1);
        due("missing ahead of any", k.missing(0, 1), -1000000);
        k.steps(6);
        // Behind STEP 3 (the third latest): 6 came, 5 went, 23 ahead of it, 2 passed.
        int[] want = {6, 5, 23, 2, -1};
        for (int what = 0; what < want.length; what++) {
            due("flow(0, 3, " + what + ")", k.flow(0, 3, what), want[what]);
        }
        due("flow(0, 6, 2)", k.flow(0, 6, 2), 20);
        due("flow(0, 7, 2)", k.flow(0, 7, 2), -1);
        due("flow(0, 0, 2)", k.flow(0, 0, 2), -1);
        due("flow(0, 1, -1)", k.flow(0, 1, -1), -1);
        due("flow(1, 1, 0)", k.flow(1, 1, 0), -1);
        for (int n = 1; n <= 6; n++) {
            due("missing(0, " + n + ")", k.missing(0, n), n);
        }
        due("missing(0, 7)", k.missing(0, 7), -1000000);
        due("missing(0, 0)", k.missing(0, 0), -1000000);
        due("missing(-1, 1)", k.missing(-1, 1), -1000000);
        due("missing(1, 1)", k.missing(1, 1), -1000000);
        k.steps(60);
        due("missing(0, 40)", k.missing(0, 40), 40);
        due("missing(0, 41)", k.missing(0, 41), -1000000);
        due("flow(0, 40, 2) is told", k.flow(0, 40, 2) >= 0, true);
        due("flow(0, 41, 2)", k.flow(0, 41, 2), -1);
        k.undo();
        due("flow(0, 6, 2) undone", k.flow(0, 6, 2), 20);
        due("flow(0, 3, 1) undone", k.flow(0, 3, 1), 5);
        // Rain is of the STEP: it came, and VOLUME ahead is without it.
        k.seed(1);
        k.chance(1);
        due("flow(0, 1, 2) by chance", k.flow(0, 1, 2), 24);
        due("missing by chance", k.missing(0, 1), 1);
        due("came by chance", k.flow(0, 1, 0), 19 + 1);
    }

    private static void whatComes() {
        CanalKeeper k = told("canal gives 0;" + pool("a", 25, 10, 20, 90, 0, 2, 0, 1, 0)
            + "outlet x at a takes 5;outlet y at a takes 4;order x from 1 for 3;order y from 3 for 1;");
        // 25, 23, 16, 9, then leak 2, x takes 5, y takes 2 and lacks 2.
        int[] want = {25, 23, 16, 9, 0, 0};
        for (int n = 0; n < want.length; n++) {
            due("later(0, " + n + ")", k.later(0, n), want[n]);
        }
        due("later(0, 200)", k.later(0, 200), 0);
        due("later(0, 201)", k.later(0, 201), -1);
        due("later(0, -1)", k.later(0, -1), -1);
        due("later(1, 0)", k.later(1, 0), -1);
        due("opening(0, 200)", k.opening(0, 200), 0);
        due("opening(0, 201)", k.opening(0, 201), -1);
        due("opening(0, -1)", k.opening(0, -1), -1);
        due("opening(-1, 0)", k.opening(-1, 0), -1);
        due("when(0, 0)", k.when(0, 0), 3);
        due("when(0, 1)", k.when(0, 1), 1);
        due("when(0, 2)", k.when(0, 2), 2);
        due("when(0, 3)", k.when(0, 3), -1);
        due("when(0, -1)", k.when(0, -1), -1);
        due("when(1, 0)", k.when(1, 0), -1);
        due("lacks(1, 3)", k.lacks(1, 3), 0);
        due("lacks(1, 4)", k.lacks(1, 4), 2);
        due("lacks(0, 4)", k.lacks(0, 4), 0);
        due("lacks(-1, 200)", k.lacks(-1, 200), 2);
        due("lacks(-1, 0)", k.lacks(-1, 0), -1);
        due("lacks(-1, 201)", k.lacks(-1, 201), -1);
        due("lacks(-2, 1)", k.lacks(-2, 1), -1);
        due("lacks(2, 1)", k.lacks(2, 1), -1);
        k.steps(4);
        due("what was short is not ahead", k.lacks(-1, 200), 0);
        due("when(0, 2) never", k.when(0, 2), -1);
        due("asking changes nothing", k.has(3), 4);
        // A STEP is the 200th, not the 201st.
        k = told("canal gives 0;" + pool("a", 200, 1, 999, 999, 0, 1, 0, 1, 0));
        due("when(0, 0) at 200", k.when(0, 0), 200);
        k = told("canal gives 0;" + pool("a", 201, 1, 999, 999, 0, 1, 0, 1, 0));
        due("when(0, 0) at 201", k.when(0, 0), -1);
    }

    private static void leastGiven() {
        String head = "canal gives 1;" + pool("a", 0, 0, 10, 10, 0, 0, 20, 20, 20) + "outlet x at a takes 7;";
        CanalKeeper k = told(head + "order x from 1 for 5;");
        k.hand(0, 20);
        due("least(1)", k.least(1), 0);
        due("least(2)", k.least(2), 7);
        due("least(60)", k.least(60), 7);
        due("least(0)", k.least(0), -1);
        due("least(61)", k.least(61), -1);
        due("gives stays", k.has(4), 1);
        k = told(head + "order x from 0 for 5;");
        due("least by none", k.least(5), -1);
        // What is SHORT already is not AHEAD: 10 are there, 4 times 7 are taken, the last 3 of these need 18.
        k.hand(0, 20);
        k.set(1, 0, 20);
        k.steps(1);
        due("least behind a SHORT", k.least(5), 6);
        k = told("canal gives 5;" + pool("a", 0, 0, 9999, 9999, 0, 0, 999, 999, 999)
            + "outlet p at a takes 99;outlet q at a takes 99;order p from 1 for 5;order q from 1 for 5;");
        due("least of two", k.least(2), 198);
        StringBuilder text = new StringBuilder("canal gives 5;").append(pool("a", 0, 0, 9999, 9999, 0, 9, 999, 999, 999));
        for (char name = 'p'; name < 'z'; name++) {
            text.append("outlet ").append(name).append(" at a takes 99;order ").append(name).append(" from 1 for 1;");
        }
        due("least of ten and a leak", told(text.toString()).least(2), 999);
    }

    private static void bestGain() {
        CanalKeeper k = told("canal gives 99;" + pool("a", 0, 10, 30, 99, 0, 0, 99, 99, 0));
        // Behind the first STEP out; behind the second 20 / GAIN is there: in with 1 and 2.
        due("gain(2, 0)", k.gain(2, 0), 1);
        due("gain(2, 1)", k.gain(2, 1), 1);
        due("gain(1, 1)", k.gain(1, 1), 1);
        due("gain(100, 1) is told", k.gain(100, 1) >= 1, true);
        due("gain(0, 0)", k.gain(0, 0), -1);
        due("gain(101, 0)", k.gain(101, 0), -1);
        due("gain(1, 2)", k.gain(1, 2), -1);
        due("gain(1, -1)", k.gain(1, -1), -1);
        // MIDDLE 11 and DELAY 2: GAIN 1 sends 11 three times ahead of the first's arrival (11, 22, 33), GAIN 2 sends
        // 5, 5, 5, 3 (5, 10, 15, 18), GAIN 3 sends 3, 3, 3, 2, 1 (3, 6, 9, 11, 12).
        k = told("canal gives 99;" + pool("a", 0, 10, 13, 99, 2, 0, 99, 99, 0));
        due("gain(4, 0)", k.gain(4, 0), 1);
        due("gain(4, 1)", k.gain(4, 1), 3);
        due("gain(5, 0)", k.gain(5, 0), 1);
        due("gain(5, 1)", k.gain(5, 1), 4);
        due("gain(8, 0)", k.gain(8, 0), 3);
        due("gain(8, 1)", k.gain(8, 1), 6);
        due("GAIN stays", k.has(5), 4);
        // Each POOL counts.
        k = told("canal gives 0;" + pool("a", 0, 1, 2, 99, 0, 0, 0, 1, 0) + pool("b", 9, 1, 2, 99, 0, 0, 0, 1, 0));
        due("gain(7, 1) of two", k.gain(7, 1), 14);
        // b draws 992 / GAIN from a, which may lose 33: that is GAIN 30; were it 32, GAIN 31, beyond all that count.
        String b = pool("b", 0, 0, 1984, 9999, 1, 0, 999, 999, 0);
        k = told("canal gives 0;" + pool("a", 100, 67, 200, 200, 0, 0, 0, 1, 0) + b);
        due("gain(2, 0) at 30", k.gain(2, 0), 30);
        due("gain(2, 1) at 30", k.gain(2, 1), 0);
        k = told("canal gives 0;" + pool("a", 100, 68, 200, 200, 0, 0, 0, 1, 0) + b);
        due("gain(2, 0) beyond 30", k.gain(2, 0), 1);
        due("gain(2, 1) beyond 30", k.gain(2, 1), 1);
    }

    private static void bestByHand() {
        CanalKeeper k = told("canal gives 50;" + pool("a", 0, 10, 12, 90, 0, 0, 20, 20, 0));
        due("best(0, 1, 0)", k.best(0, 1, 0), 0);
        due("best(0, 1, 1)", k.best(0, 1, 1), 1);
        due("best(0, 2, 0)", k.best(0, 2, 0), 10);
        due("best(0, 2, 1)", k.best(0, 2, 1), 1);
        due("best(0, 3, 0)", k.best(0, 3, 0), 5);
        due("best(0, 3, 1)", k.best(0, 3, 1), 2);
        due("best(0, 0, 0)", k.best(0, 0, 0), -1);
        due("best(0, 41, 0)", k.best(0, 41, 0), -1);
        due("best(0, 40, 2)", k.best(0, 40, 2), -1);
        due("best(0, 40, -1)", k.best(0, 40, -1), -1);
        due("best(1, 1, 0)", k.best(1, 1, 0), -1);
        due("by hand stays", k.gate(0, 4), -1);
        // Told by hand already: another is weighed all the same.
        k.hand(0, 20);
        due("best(0, 2, 0) by hand", k.best(0, 2, 0), 10);
        // What the GATE can reach: 3 a STEP.
        k = told("canal gives 50;" + pool("a", 0, 9, 9, 90, 0, 0, 20, 3, 0));
        due("best(0, 3, 0) by threes", k.best(0, 3, 0), 6);
        due("best(0, 3, 1) by threes", k.best(0, 3, 1), 2);
        // 10, 20, 30, 40 pass: 100 are there behind the fifth STEP, and by nothing less.
        k = told("canal gives 99;" + pool("a", 0, 100, 100, 900, 0, 0, 90, 10, 0));
        due("best(0, 5, 0) by tens", k.best(0, 5, 0), 40);
        due("best(0, 5, 1) by tens", k.best(0, 5, 1), 4);
        due("best(0, 40, 1) is told", k.best(0, 40, 1) >= 0, true);
    }

    private static void oneMoreOrder() {
        String still = "canal gives 0;" + pool("a", 10, 0, 20, 20, 0, 0, 0, 1, 0)
            + "outlet x at a takes 5;outlet y at a takes 5;";
        CanalKeeper k = told(still);
        due("fits(0, 2)", k.fits(0, 2), 0);
        due("fits(0, 3)", k.fits(0, 3), -1);
        due("fits(0, 0)", k.fits(0, 0), -1);
        due("fits(0, 100)", k.fits(0, 100), -1);
        due("fits(2, 1)", k.fits(2, 1), -1);
        due("fits(-1, 1)", k.fits(-1, 1), -1);
        k.steps(3);
        due("fits(0, 2) later", k.fits(0, 2), 3);
        due("no order came", k.has(2), 0);
        // The same STEPS asked twice harm nobody, one more does.
        k = told(still + "order x from 4 for 3;");
        due("fits(0, 3) upon another", k.fits(0, 3), 4);
        due("fits(0, 4) beside another", k.fits(0, 4), -1);
        // 5 arrive each STEP from 3 on.
        k = told("canal gives 5;" + pool("a", 0, 0, 20, 20, 3, 0, 5, 5, 5) + "outlet x at a takes 5;");
        k.hand(0, 5);
        due("fits(0, 4) when water comes", k.fits(0, 4), 3);
        // The 60th STEP is the last that is tried.
        k = told("canal gives 0;" + pool("a", 100, 0, 200, 200, 0, 0, 0, 1, 0)
            + "outlet x at a takes 5;order x from 59 for 99;");
        due("fits(0, 1) at the 60th", k.fits(0, 1), 59);
        k = told("canal gives 0;" + pool("a", 100, 0, 200, 200, 0, 0, 0, 1, 0)
            + "outlet x at a takes 5;order x from 60 for 99;");
        due("fits(0, 1) at the 61st", k.fits(0, 1), -1);
        // With 16 there is no room.
        for (int i = 1; i < 16; i++) {
            k.ask(0, 200, 1);
        }
        due("16 orders", k.has(2), 16);
        due("fits with 16", k.fits(0, 1), -1);
        k.cancel(0);
        due("fits with 15", k.fits(0, 1), 0);
        k = told("canal gives 0;" + pool("a", 9999, 0, 9999, 9999, 0, 0, 0, 1, 0) + "outlet x at a takes 5;");
        due("fits(0, 99)", k.fits(0, 99), 0);
        due("fits(0, 100)", k.fits(0, 100), -1);
    }

    private static void seenAndLeaks() {
        CanalKeeper k = told("canal gives 0;" + pool("a", 50, 0, 90, 90, 0, 3, 0, 1, 0)
            + pool("b", 5, 0, 90, 90, 0, 0, 0, 1, 0));
        due("leaks ahead of see", k.leaks(-1), -1);
        due("tells ahead of see", k.tells(0), -1);
        due("see 44", see(k, 0, 2, 44), 1);
        due("leaks(-1)", k.leaks(-1), 1);
        due("leaks(0)", k.leaks(0), 3);
        due("leaks(1)", k.leaks(1), -1);
        due("leaks(-2)", k.leaks(-2), -1);
        due("tells(0)", k.tells(0), 1);
        due("tells(1)", k.tells(1), 1);
        due("tells(2)", k.tells(2), -1);
        due("tells(-1)", k.tells(-1), -1);
        due("see 0 at 40", see(k, 0, 40, 0), 1);
        due("leaks(-1)", k.leaks(-1), 39);
        due("leaks(0)", k.leaks(0), 2);
        due("leaks(38)", k.leaks(38), 40);
        due("leaks(39)", k.leaks(39), -1);
        due("see two", see(k, 0, 40, 0, 1, 47), 2);
        due("leaks(-1) of two", k.leaks(-1), 1);
        due("see two apart", see(k, 0, 40, 1, 1, 47), 2);
        due("no leaks", k.leaks(-1), 0);
        due("leaks(0) of none", k.leaks(0), -1);
        due("tells(0) of none", k.tells(0), -1);
        due("see b empty", see(k, 1, 1, 0), 1);
        due("leaks(-1) of b", k.leaks(-1), 36);
        due("leaks(0) of b", k.leaks(0), 5);
        due("tells(0) of b", k.tells(0), 1);
        due("tells(1) of b", k.tells(1), 36);
        // AHEAD is from now on, whenever it was SEEN; undo lets it stay.
        see(k, 0, 1, 47);
        k.steps(1);
        due("tells later", k.tells(1), 1);
        due("leaks later", k.leaks(0), 0);
        k.set(1, 0, 1);
        k.steps(1);
        due("tells when none fits", k.tells(0), -1);
        k.undo();
        k.undo();
        k.undo();
        due("has(7) undone", k.has(7), 1);
        due("leaks undone", k.leaks(0), 3);
        // The LEAK tried moves its GATE too.
        k = told("canal gives 99;keep 1;" + pool("a", 50, 50, 50, 90, 0, 3, 99, 99, 0));
        see(k, 0, 1, 46, 2, 50);
        due("leaks with a gate", k.leaks(-1), 1);
        due("leaks(0) with a gate", k.leaks(0), 4);
        lastStepTells();
        wrongSight();
    }

    /** Water passes five GATES, 9 STEPS each but the last, and arrives in the 40th STEP: only then VOLUMES differ. */
    private static void lastStepTells() {
        StringBuilder text = new StringBuilder("canal gives 20;");
        for (char name = 'a'; name <= 'e'; name++) {
            text.append(pool("" + name, 0, 0, 90, 90, name == 'e' ? 3 : 9, 0, 20, 20, 20));
        }
        CanalKeeper k = told(text.toString());
        for (int gate = 0; gate < 5; gate++) {
            k.hand(gate, 20);
        }
        see(k, 4, 1, 0);
        due("leaks(-1) of all", k.leaks(-1), 41);
        due("tells(0) at 40", k.tells(0), 40);
        due("tells(1) at 40", k.tells(1), 21);
    }

    private static void wrongSight() {
        CanalKeeper k = told("canal gives 0;" + pool("a", 50, 0, 90, 90, 0, 3, 0, 1, 0));
        due("ten rows", see(k, 0, 1, 1, 1, 1, 1, 1, 1, 1, 1, 1, 1, 1, 1, 1, 1, 1, 1, 1, 40, 65535), 10);
        due("eleven rows",
            see(k, 0, 1, 1, 1, 1, 1, 1, 1, 1, 1, 1, 1, 1, 1, 1, 1, 1, 1, 1, 1, 1, 1, 1), -1);
        due("all stays", k.has(7), 10);
        due("no row", see(k, 0), -1);
        due("0 steps", see(k, 0, 0, 5), -1);
        due("41 steps", see(k, 0, 41, 5), -1);
        due("255 steps", see(k, 0, 255, 5), -1);
        due("a wrong row behind", see(k, 0, 1, 5, 0, 5), -1);
        due("no such pool", see(k, 1, 1, 5), -1);
        due("pool NONE", see(k, -1, 1, 5), -1);
        tape(k, new byte[] {1, 0, 5, 1});
        due("four bytes", k.see(0), -1);
        due("the tape went", k.feed(0, 0, 0, 0, 0), 20);
        due("status(5)", k.status(5), 9);
        due("all stays", k.has(7), 10);
    }

    private static void stepsThatGo() {
        CanalKeeper k = told(ONE);
        due("steps(0)", k.steps(0), -1);
        due("steps(101)", k.steps(101), -1);
        due("chance(61)", k.chance(61), -1);
        due("steps(MIN)", k.steps(MIN), -1);
        due("steps(MAX)", k.steps(MAX), -1);
        for (int i = 1; i <= 99; i++) {
            due("steps(100)", k.steps(100), 100 * i);
        }
        due("steps(100) beyond", k.steps(100), -1);
        due("chance(60)", k.chance(60), 9960);
        due("chance(40) beyond", k.chance(40), -1);
        due("chance(0)", k.chance(0), -1);
        due("chance(61)", k.chance(61), -1);
        due("chance(39)", k.chance(39), 9999);
        k.undo();
        due("steps(39)", k.steps(39), 9999);
        due("steps(1) beyond", k.steps(1), -1);
        due("chance(1) beyond", k.chance(1), -1);
        due("status(2)", k.status(2), 11);
        due("later at the end", k.later(0, 200) >= 0, true);
        due("ask at the end", k.ask(0, 9999, 99), 1);
        due("ask behind the end", k.ask(0, 10000, 1), -1);
        due("event behind the end", k.event(1, 0), 10098);
        due("opens at the end", k.opens(0, 9999), 1);
        due("acts that can be undone", k.has(8), 20);
    }

    private static void rainBySeed() {
        CanalKeeper k = told("canal gives 0;" + pool("a", 50, 0, 90, 99, 0, 0, 0, 1, 0));
        // 1 -> 1103527590 -> 377401575: the POOL 0, then 5896899 mod 20.
        due("chance(1)", k.chance(1), 1);
        due("rain", k.pool(0, 0), 69);
        due("RAINED", k.account(4), 19);
        due("the seed", k.has(9), 377401575);
        due("undo()", k.undo(), true);
        due("no rain", k.pool(0, 0), 50);
        due("RAINED", k.account(4), 0);
        due("the seed stays", k.has(9), 377401575);
        // -> 662824084 -> 1147902781: 17935980 mod 20 = 0.
        k.chance(1);
        due("rain of nothing", k.account(4), 0);
        due("seed(0)", k.seed(0), true);
        due("has(9)", k.has(9), 0);
        due("seed(MAX)", k.seed(MAX), true);
        due("has(9)", k.has(9), MAX);
        due("seed(-1)", k.seed(-1), false);
        due("seed(MIN)", k.seed(MIN), false);
        due("has(9)", k.has(9), MAX);
        due("status(5)", k.status(5), 2);
        // Two POOLS: 1103527590 / 64 is 17242618, so POOL 0; with seed 2, 59552835 / 64 is 930513: 1.
        k = told("canal gives 0;" + pool("a", 50, 0, 90, 99, 0, 0, 0, 1, 0) + pool("b", 50, 0, 90, 99, 0, 0, 0, 1, 0));
        k.chance(1);
        due("rain on a", k.pool(0, 0), 69);
        long x = (1103515245L * 2 + 12345) % (1L << 31);
        long y = (1103515245L * x + 12345) % (1L << 31);
        k.seed(2);
        k.chance(1);
        int rain = (int) (y / 64 % 20);
        due("rain by 2", k.account(4), 19 + rain);
        due("its pool", k.flow((int) (x / 64 % 2), 1, 0), rain);
    }

    private static void ordersAskedAndCancelled() {
        CanalKeeper k = told(ONE);
        k.steps(4);
        due("ask ahead of now", k.ask(0, 3, 1), -1);
        due("ask now", k.ask(0, 4, 99), 1);
        due("ask for 0", k.ask(0, 4, 0), -1);
        due("ask for 100", k.ask(0, 4, 100), -1);
        due("ask no outlet", k.ask(1, 4, 1), -1);
        due("ask NONE", k.ask(-1, 4, 1), -1);
        due("ask at 10000", k.ask(0, 10000, 1), -1);
        due("ask at 9999", k.ask(0, 9999, 1), 2);
        due("status(3)", k.status(3), 6);
        due("order(1, 1)", k.order(1, 1), 4);
        due("order(1, 2)", k.order(1, 2), 99);
        due("cancel(3)", k.cancel(3), false);
        due("cancel(-1)", k.cancel(-1), false);
        due("cancel(0)", k.cancel(0), true);
        due("has(2)", k.has(2), 2);
        due("order(0, 2)", k.order(0, 2), 99);
        due("order(1, 1)", k.order(1, 1), 9999);
        due("order(2, 0)", k.order(2, 0), -1);
        due("opens(0, 102)", k.opens(0, 102), 1);
        due("opens(0, 103)", k.opens(0, 103), 0);
        k.undo();
        due("undone: order(0, 1)", k.order(0, 1), 3);
        due("undone: has(2)", k.has(2), 3);
        for (int i = 3; i < 16; i++) {
            due("ask " + i, k.ask(0, 50, 1), i);
        }
        int acts = k.has(8);
        int refused = k.status(3);
        due("ask with 16", k.ask(0, 50, 1), -1);
        due("that is no ACT", k.has(8), acts);
        due("that is refused", k.status(3), refused + 1);
    }

    private static void gatesByHand() {
        CanalKeeper k = told(ONE);
        due("hand(0, -1) when it is so", k.hand(0, -1), false);
        due("hand(0, 16)", k.hand(0, 16), false);
        due("hand(0, -2)", k.hand(0, -2), false);
        due("hand(1, 0)", k.hand(1, 0), false);
        due("hand(-1, 0)", k.hand(-1, 0), false);
        due("hand(0, 15)", k.hand(0, 15), true);
        due("hand(0, 15) when it is so", k.hand(0, 15), false);
        due("gate(0, 4)", k.gate(0, 4), 15);
        due("gate(0, 3)", k.gate(0, 3), 15);
        due("gate(0, 0) stays", k.gate(0, 0), 6);
        k.steps(1);
        due("by 4", k.gate(0, 0), 10);
        k.steps(1);
        due("by 4 again", k.gate(0, 0), 14);
        k.steps(1);
        due("there", k.gate(0, 0), 15);
        due("passed what is given", k.gate(0, 5), 10);
        due("hand(0, 0)", k.hand(0, 0), true);
        due("gate(0, 3)", k.gate(0, 3), 0);
        due("hand(0, -1)", k.hand(0, -1), true);
        due("gate(0, 4)", k.gate(0, 4), -1);
        due("status(3)", k.status(3), 6);
        // Cut towards 0, held in 0 .. MOST.
        k = told("canal gives 9;keep 3;" + pool("a", 15, 0, 20, 90, 0, 4, 4, 9, 0));
        due("4 and -5 / 3", k.gate(0, 3), 3);
        k = told("canal gives 9;keep 3;" + pool("a", 5, 0, 20, 90, 0, 4, 4, 9, 0));
        due("4 and 5 / 3, held", k.gate(0, 3), 4);
        k = told("canal gives 9;keep 1;" + pool("a", 15, 0, 20, 90, 0, 4, 4, 9, 0));
        due("4 and -5, held", k.gate(0, 3), 0);
    }

    private static void otherSettings() {
        CanalKeeper k = told(ONE);
        due("set(0, 0, 1) as it is", k.set(0, 0, 1), false);
        due("set(0, 0, 99)", k.set(0, 0, 99), true);
        due("pool(0, 5)", k.pool(0, 5), 99);
        due("set(0, 0, 100)", k.set(0, 0, 100), false);
        due("set(0, 0, -1)", k.set(0, 0, -1), false);
        due("set(0, 1, 5)", k.set(0, 1, 5), false);
        due("set(0, -1, 5)", k.set(0, -1, 5), false);
        due("set(0, 0, 0)", k.set(0, 0, 0), true);
        due("set(1, 0, 10) as it is", k.set(1, 0, 10), false);
        due("set(1, 1, 11)", k.set(1, 1, 11), false);
        due("set(1, 0, 1000)", k.set(1, 0, 1000), false);
        due("set(1, 0, -1)", k.set(1, 0, -1), false);
        due("set(1, 0, 999)", k.set(1, 0, 999), true);
        due("set(1, 0, 0)", k.set(1, 0, 0), true);
        due("set(2, 0, 4) as it is", k.set(2, 0, 4), false);
        due("set(2, 1, 5)", k.set(2, 1, 5), false);
        due("set(2, 0, 0)", k.set(2, 0, 0), false);
        due("set(2, 0, 100)", k.set(2, 0, 100), false);
        due("set(2, 0, 99)", k.set(2, 0, 99), true);
        due("set(2, 0, 1)", k.set(2, 0, 1), true);
        due("set(3, 0, 1)", k.set(3, 0, 1), false);
        due("set(-1, 0, 1)", k.set(-1, 0, 1), false);
        due("status(3)", k.status(3), 15);
        due("has(8)", k.has(8), 6);
        due("has(4)", k.has(4), 0);
        due("has(5)", k.has(5), 1);
        k.steps(1);
        due("nothing is given", k.account(0), 0);
        due("nothing leaks", k.account(2), 0);
    }

    private static void actsUndone() {
        CanalKeeper k = told(ONE);
        due("undo() of none", k.undo(), false);
        k.steps(3);
        k.ask(0, 5, 1);
        k.cancel(0);
        k.hand(0, 3);
        k.set(0, 0, 7);
        k.set(1, 0, 8);
        k.set(2, 0, 9);
        k.chance(2);
        due("has(8)", k.has(8), 8);
        due("undo chance", k.undo(), true);
        due("STEP", k.has(3), 3);
        due("undo gain", k.undo() && k.has(5) == 4 && k.has(4) == 8, true);
        due("undo gives", k.undo() && k.has(4) == 10 && k.pool(0, 5) == 7, true);
        due("undo leak", k.undo() && k.pool(0, 5) == 1 && k.gate(0, 4) == 3, true);
        due("undo hand", k.undo() && k.gate(0, 4) == -1 && k.has(2) == 1, true);
        due("undo cancel", k.undo() && k.has(2) == 2 && k.order(0, 1) == 3 && k.order(1, 1) == 5, true);
        due("undo ask", k.undo() && k.has(2) == 1 && k.has(3) == 3, true);
        due("undo steps", k.undo() && k.has(3) == 0 && k.pool(0, 0) == 20 && k.pool(0, 6) == 0, true);
        due("the gate", k.gate(0, 0), 6);
        due("passed", k.gate(0, 5), 0);
        due("GIVEN", k.account(0), 0);
        due("undo() of none", k.undo(), false);
        due("status(4)", k.status(4), 2);
        for (int i = 0; i < 25; i++) {
            k.steps(1);
        }
        due("has(8)", k.has(8), 20);
        for (int i = 0; i < 20; i++) {
            due("undo " + i, k.undo(), true);
        }
        due("undo() of the 21st", k.undo(), false);
        due("STEP", k.has(3), 5);
        due("VOLUME", k.pool(0, 0), VOLUME[5]);
        due("a refused act is none", k.steps(0) == -1 && !k.undo(), true);
        k.steps(1);
        due("has(8)", k.has(8), 1);
        due("VOLUME", k.pool(0, 0), VOLUME[6]);
    }

    private static void withoutPools() {
        CanalKeeper k = told("canal gives 9;");
        due("steps(5)", k.steps(5), 5);
        due("chance(5)", k.chance(5), -1);
        due("status(2)", k.status(2), 1);
        due("account(0)", k.account(0), 0);
        due("account(5)", k.account(5), 0);
        due("lacks(-1, 5)", k.lacks(-1, 5), 0);
        due("least(5)", k.least(5), -1);
        due("gain(5, 0)", k.gain(5, 0), -1);
        due("rank(0)", k.rank(0), -1);
        due("event(-1, 0)", k.event(-1, 0), 0);
        due("set(1, 0, 5)", k.set(1, 0, 5), true);
        due("set(2, 0, 5)", k.set(2, 0, 5), true);
        due("has(8)", k.has(8), 3);
        due("undo()", k.undo(), true);
        due("has(5)", k.has(5), 4);
        due("status(-1)", k.status(-1), -1);
        due("status(6)", k.status(6), -1);
    }
}
