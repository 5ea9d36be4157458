import java.util.Arrays;

/** Promises 1 to 42, sentence by sentence: the least and the most, what is beyond, what is refused. */
public final class CallEdgesTest extends Check {
    private static final String DRY = "canal gives 0;";
    private static final String ONE = "canal gives 10;" + pool("a", 20, 10, 30, 40, 2, 1, 15, 4, 6)
        + "outlet x at a takes 5;order x from 3 for 2;";
    private static final String TWO = "canal gives 9;keep 2;" + pool("abz", 10, 20, 31, 40, 2, 1, 9, 2, 3)
        + pool("zzzzzz", 5, 0, 3, 4, 1, 2, 8, 1, 1) + "outlet q at abz takes 5;outlet qq at zzzzzz takes 2;"
        + "order q from 1 for 3;order qq from 2 for 9;order q from 9 for 2;turns 2 qq,q;";

    private CallEdgesTest() {
    }

    public static void main(String[] args) {
        constants();
        newObject();
        feed();
        end();
        canal();
        fault();
        has();
        letter();
        named();
        pools();
        gate();
        rows();
        outlet();
        order();
        opens();
        load();
        account();
        event();
        rank();
        alarm();
        alarms();
        flow();
        missing();
        later();
        opening();
        when();
        lacks();
        least();
        gain();
        best();
        fits();
        sees();
        leaks();
        tells();
        steps();
        chance();
        ask();
        cancel();
        hand();
        set();
        undo();
        seed();
        status();
        finish();
    }

    private static void constants() {
        part("the constants", "`NONE = -1`", "Ahead of the calls");
        sentence("`NONE = -1`: There is none; it is refused.");
        due("NONE", CanalKeeper.NONE, -1);
        sentence("`NOTHING = -1000000`: There is no such number.");
        due("NOTHING", CanalKeeper.NOTHING, -1000000);
    }

    private static void newObject() {
        promise(1);
        sentence("No canal; the seed is 1.");
        CanalKeeper k = new CanalKeeper();
        row("has", k::has, 0, 0, 0, 0, 0, 0, 0, 0, 0, 1, 0, NONE);
        row("account", k::account, NONE, NONE, NONE, NONE, NONE, NONE, NONE);
        row("status", k::status, 0, 0, 0, 0, 0, 0, NONE);
        due("the tape is empty", k.end(1), false);
        due("nothing FAULTY", k.fault(0), 0);
        due("no place", k.fault(1), NONE);
        refused("steps(1)", k, 2, () -> k.steps(1));
        refused("chance(1)", k, 2, () -> k.chance(1));
        refused("ask(0, 0, 1)", k, 3, () -> k.ask(0, 0, 1));
        denied("cancel(0)", k, 3, () -> k.cancel(0));
        denied("hand(0, 0)", k, 3, () -> k.hand(0, 0));
        denied("hand(0, NONE)", k, 3, () -> k.hand(0, NONE));
        denied("set(0, 0, 1)", k, 3, () -> k.set(0, 0, 1));
        denied("set(1, 0, 1)", k, 3, () -> k.set(1, 0, 1));
        denied("set(2, 0, 1)", k, 3, () -> k.set(2, 0, 1));
        denied("undo()", k, 4, k::undo);
        refused("see(0)", k, 5, () -> see(k, 0, 1, 1));
        due("later(0, 0)", k.later(0, 0), NONE);
        due("lacks(NONE, 1)", k.lacks(NONE, 1), NONE);
        due("alarms(NONE, 1)", k.alarms(NONE, 1), 0);
        due("missing(0, 1)", k.missing(0, 1), NOTHING);
    }

    private static int four(String bytes) {
        int n = 0;
        for (int i = 0; i < 4; i++) {
            n = n << 8 | bytes.charAt(i);
        }
        return n;
    }

    private static void fill(CanalKeeper k, int feeds) {
        for (int i = 0; i < feeds; i++) {
            k.feed(0, 0, 0, 0, 0);
        }
    }

    private static void feed() {
        promise(2);
        CanalKeeper k = told(DRY + pool("abcdef", 1, 0, 9, 9, 0, 0, 0, 1, 0));
        sentence("Twenty bytes come behind those on the tape,");
        k.feed(four("abxx"), 0, 0, 0, 0);
        k.end(2);
        k.feed(four("cdef"), 0, 0, 0, 0);
        k.end(6);
        due("named(0) of ab and cdef", k.named(0), 0);
        k.feed(four(" can"), four("al g"), four("ives"), four(" 12;"), four("    "));
        k.end(16);
        due("all five numbers, in their order", k.canal(), 1);
        due("gives", k.has(4), 12);
        sentence("of each number the highest first:");
        CanalKeeper a = told(DRY + pool("abcdef", 1, 0, 9, 9, 0, 0, 0, 1, 0));
        a.feed(0x61626364, 0x65660000, 0, 0, 0);
        a.end(6);
        due("named(0)", a.named(0), 0);
        a.feed(0x01800000, 0xff000000, 0xffffffff, 0, 0);
        a.end(3);
        due("bytes above 127", a.see(0), 1);
        sentence("how many there are;");
        CanalKeeper f = new CanalKeeper();
        due("20", f.feed(-1, -1, -1, -1, -1), 20);
        due("40", f.feed(0, 0, 0, 0, 0), 40);
        f.end(1);
        due("21", f.feed(MIN, MAX, 0, 0, 0), 21);
        sentence("NONE, refused (0), if there would be more than 1600.");
        CanalKeeper full = new CanalKeeper();
        fill(full, 79);
        due("the 80th", full.feed(0, 0, 0, 0, 0), 1600);
        refused("the 81st", full, 0, () -> full.feed(0, 0, 0, 0, 0));
        due("1600 are there", full.end(1600), true);
        full.end(1581);
        refused("1601 would be", full, 0, () -> full.feed(0, 0, 0, 0, 0));
        due("1581 are there", full.end(1582), false);
        due("all 1581", full.end(1581), true);
        full.end(1580);
        due("to 1600", full.feed(0, 0, 0, 0, 0), 1600);
    }

    private static void end() {
        promise(3);
        sentence("The tape has its first n bytes alone: true;");
        CanalKeeper k = new CanalKeeper();
        due("end(0) of 0", k.end(0), true);
        k.feed(0, 0, 0, 0, 0);
        due("end(20) of 20", k.end(20), true);
        due("end(19) of 20", k.end(19), true);
        due("feed behind 19", k.feed(0, 0, 0, 0, 0), 39);
        due("end(0) of 39", k.end(0), true);
        due("feed behind 0", k.feed(0, 0, 0, 0, 0), 20);
        textsCutOff();
        sentence("false, refused (0), if it has not so many, or n is below 0.");
        denied("end(21) of 20", k, 0, () -> k.end(21));
        denied("end(MAX)", k, 0, () -> k.end(MAX));
        denied("end(-1)", k, 0, () -> k.end(-1));
        denied("end(MIN)", k, 0, () -> k.end(MIN));
        due("feed behind 20", k.feed(0, 0, 0, 0, 0), 40);
        k.end(0);
        denied("end(1) of 0", k, 0, () -> k.end(1));
    }

    /** What was on the tape behind its end is not read, whatever it would say. */
    private static void textsCutOff() {
        String text = "canal gives 5;keep 3;" + pool("a", 1, 0, 5, 9, 0, 0, 5, 1, 0) + "outlet x at a takes 1;"
            + "outlet y at a takes 2;order x from 1 for 2;turns 2 x,y;";
        for (int length = 0; length <= text.length(); length++) {
            CanalKeeper cut = new CanalKeeper();
            CanalKeeper alone = new CanalKeeper();
            tape(cut, text);
            cut.end(length);
            tape(alone, text.substring(0, length));
            due("canal() of " + length, cut.canal(), alone.canal());
            due("fault(0) of " + length, cut.fault(0), alone.fault(0));
            due("fault(1) of " + length, cut.fault(1), alone.fault(1));
        }
    }

    private static void tapeGone(CanalKeeper k) {
        due("no byte is left on the tape", k.end(1), false);
        due("feed begins anew", k.feed(0, 0, 0, 0, 0), 20);
        k.end(0);
    }

    private static void canal() {
        promise(4);
        sentence("The tape (it goes) is THE CANAL: how many STATEMENTS;");
        CanalKeeper k = new CanalKeeper();
        tape(k, "canal gives 5;");
        due("1", k.canal(), 1);
        tapeGone(k);
        tape(k, TWO);
        due("10", k.canal(), 10);
        String filled = "canal gives 7;" + " ".repeat(1586);
        tape(k, filled);
        due("1600 bytes", k.canal(), 1);
        tape(k, " ".repeat(1586) + "canal gives 8;");
        due("the last of 1600", k.canal(), 1);
        due("gives", k.has(4), 8);
        sentence("NONE, refused (1), with a FAULT (all stays;");
        CanalKeeper old = told(TWO);
        old.seed(9);
        old.chance(3);
        old.hand(0, 2);
        see(old, 0, 1, 1);
        String state = state(old);
        int leaks = old.leaks(NONE);
        tape(old, "canal gives 999;keep 9;" + pool("a", 1, 0, 9, 9, 0, 0, 9, 9, 9) + "keep 0;");
        due("canal()", old.canal(), NONE);
        row("status", old::status, 0, 1, 0, 0, 0, 0);
        due("its FAULT", old.fault(0), 2);
        tapeGone(old);
        due("status(0) by tapeGone", old.status(0), 1);
        tape(old, "canal gives 5;" + " ".repeat(1581) + "keep ");
        due("canal() of 1600 that end too soon", old.canal(), NONE);
        due("its place", old.fault(1), 1600);
        due("SEEN stays", old.leaks(NONE), leaks);
        due("all stays but the FAULT", withoutFault(state(old)).equals(withoutFault(state)), true);
        due("undo() of hand", old.undo() && old.gate(0, 4) == NONE, true);
        due("undo() of chance", old.undo() && old.has(3) == 0, true);
        sentence("one without a STATEMENT has FAULT 1 at its length).");
        for (int length : new int[] {0, 1, 19, 20, 1600}) {
            wrong(1, " ".repeat(length) + "^");
            wrong(1, "\n".repeat(length) + "^");
        }
        sentence("Without one it is STEP 0, all as told, nothing is KEPT, SEEN, by hand, or can be undone;");
        tape(old, ONE);
        due("canal()", old.canal(), 4);
        CanalKeeper fresh = told(ONE);
        fresh.seed(old.has(9));
        due("all as in a new object", state(old).equals(state(fresh)), true);
        row("has", old::has, 1, 1, 1, 0, 10, 4, 0, 0, 0);
        due("by hand", old.gate(0, 4), NONE);
        due("SEEN", old.leaks(NONE), NONE);
        due("undo()", old.undo(), false);
        due("flow", old.flow(0, 1, 0), NONE);
        row("account", old::account, 0, 0, 0, 0, 0, 20, 0);
        old.steps(3);
        fresh.steps(3);
        due("STEPS go as in a new object", state(old).equals(state(fresh)), true);
        canalUponCanals();
        sentence("the seed stays.");
        CanalKeeper s = new CanalKeeper();
        s.seed(77);
        tape(s, ONE);
        s.canal();
        due("77", s.has(9), 77);
        s.chance(1);
        int x = s.has(9);
        tape(s, ONE);
        s.canal();
        due("behind two draws", s.has(9), x);
    }

    /** Nothing of what was told ahead, with or without a FAULT, shows in a smaller one. */
    private static void canalUponCanals() {
        String big = "canal gives 99;keep 9;" + times(8, pool("#", 90, 1, 2, 3, 9, 9, 9, 9, 9)) + times(10, "outlet o# at b "
            + "takes 9;") + times(8, "order o# from 0 for 99;order ob from 3 for 99;") + "turns 1 ob,oc,od,oe,of,og;"
            + "turns 3 og,of,oe,od,oc,ob;";
        String small = DRY + pool("a", 30, 40, 50, 60, 3, 0, 5, 1, 2) + pool("z", 8, 4, 6, 9, 2, 1, 5, 1, 2)
            + "outlet x at a takes 2;outlet y at z takes 1;order y from 3 for 2;turns 2 y,x;";
        for (int wrong = 0; wrong <= 1; wrong++) {
            CanalKeeper k = told(big);
            k.hand(0, 1);
            see(k, 0, 1, 1);
            k.chance(20);
            tape(k, big);
            due("canal()", k.canal(), 38);
            k.steps(50);
            if (wrong == 1) {
                tape(k, big + "keep 0;");
                due("canal() with a FAULT", k.canal(), NONE);
            }
            tape(k, small);
            due("canal()", k.canal(), 7);
            k.seed(1);
            CanalKeeper fresh = told(small);
            due("all as told", state(k).equals(state(fresh)), true);
            due("what is AHEAD, as told", looks(k).equals(looks(fresh)), true);
            k.steps(7);
            fresh.steps(7);
            due("STEPS go as told", state(k).equals(state(fresh)), true);
            due("what is AHEAD of these", looks(k).equals(looks(fresh)), true);
        }
    }

    private static String looks(CanalKeeper k) {
        StringBuilder all = new StringBuilder();
        for (int i = 0; i < 9; i++) {
            for (int n = 0; n < 20; n++) {
                all.append(k.load(i, n)).append(' ').append(k.opens(i, n)).append(' ').append(k.later(i, n)).append(' ')
                    .append(k.opening(i, n)).append(' ').append(k.lacks(i, n)).append(' ');
            }
            all.append(k.rank(i)).append(' ').append(k.when(i, 0)).append(' ').append(k.when(i, 2)).append(' ')
                .append(k.fits(i, 3)).append(' ').append(k.best(i, 5, 0)).append(' ').append(k.best(i, 5, 1)).append(' ');
        }
        return all.append(k.least(20)).append(' ').append(k.gain(20, 0)).append(' ').append(k.gain(20, 1)).append(' ')
            .append(k.leaks(NONE)).append(' ').append(k.tells(0)).toString();
    }

    /** state() with the numbers of fault() left out: they are the third of each of the first eleven. */
    private static String withoutFault(String state) {
        String[] n = state.split(" ");
        for (int i = 0; i < 11; i++) {
            n[3 * i + 2] = "";
        }
        return String.join(" ", n);
    }

    private static void fault() {
        promise(5);
        sentence("Of the latest canal(): its FAULT (what 0; 0 without, and ahead of any),");
        CanalKeeper k = new CanalKeeper();
        due("ahead of any", k.fault(0), 0);
        tape(k, "canal gives 5;keep 0;");
        k.canal();
        due("2", k.fault(0), 2);
        tape(k, "canal gives 5;kept 0;");
        k.canal();
        due("of the latest", k.fault(0), 1);
        due("and its place", k.fault(1), 14);
        tape(k, "canal gives 5;");
        k.canal();
        due("without", k.fault(0), 0);
        sentence("its place (1; NONE without).");
        due("without", k.fault(1), NONE);
        due("ahead of any", new CanalKeeper().fault(1), NONE);
        tape(k, "x");
        k.canal();
        due("at 0", k.fault(1), 0);
        k.named(0);
        see(k, 0, 1, 1);
        due("named() and see() have none", k.fault(0), 1);
        sentence("NONE for another what.");
        outside("fault", 0, 1, k::fault, NONE);
    }

    private static void has() {
        promise(6);
        CanalKeeper k = told(DRY + pool("a", 5, 10, 20, 30, 0, 0, 0, 1, 0) + pool("b", 10, 10, 20, 30, 0, 0, 0, 1, 0)
            + pool("c", 20, 10, 20, 30, 0, 0, 0, 1, 0) + times(5, pool("c#", 21, 10, 20, 30, 0, 0, 0, 1, 0))
            + "outlet x at b takes 3;outlet y at b takes 3;order x from 1 for 1;order x from 9 for 1;order y from 9 for 1;");
        sentence("What there is: 0 POOLS, 1 OUTLETS, 2 ORDERS, 3 STEP,");
        row("has", k::has, 8, 2, 3, 0);
        k.steps(2);
        k.cancel(0);
        row("has", k::has, 8, 2, 2, 2);
        sentence("4 what the canal gives, 5 GAIN,");
        due("gives", k.has(4), 0);
        due("GAIN", k.has(5), 4);
        k.set(1, 0, 999);
        k.set(2, 0, 99);
        due("gives", k.has(4), 999);
        due("GAIN", k.has(5), 99);
        sentence("6 told as KEPT,");
        due("all but c, and b behind STEP 1", k.has(6), 7);
        sentence("7 rows SEEN,");
        due("ahead of see()", k.has(7), 0);
        see(k, 0, 1, 5, 2, 5, 3, 5);
        due("three", k.has(7), 3);
        see(k, 1, 1, 5);
        due("one", k.has(7), 1);
        sentence("8 ACTS that can be undone,");
        due("steps, cancel, set, set", k.has(8), 4);
        sentence("9 the seed,");
        k.seed(MAX);
        due("the seed", k.has(9), MAX);
        sentence("10 POOLS that are not in their BANDS, as bits.");
        due("a, b (7 left of 10) and the last five", k.has(10), 1 + 2 + 8 + 16 + 32 + 64 + 128);
        sentence("Without a canal all but the seed are 0.");
        row("has", new CanalKeeper()::has, 0, 0, 0, 0, 0, 0, 0, 0, 0, 1, 0);
        CanalKeeper still = new CanalKeeper();
        tape(still, ONE + "x");
        still.canal();
        row("has behind a FAULT", still::has, 0, 0, 0, 0, 0, 0, 0, 0, 0, 1, 0);
        sentence("NONE for others.");
        outside("has", 0, 10, k::has, NONE);
        outside("has without a canal", 0, 10, still::has, NONE);
    }

    private static void letter() {
        promise(7);
        CanalKeeper k = told(TWO);
        sentence("Letter k (0 .. 5) of the NAME of a POOL (kind 0), an OUTLET (1): 1 .. 26;");
        row("abz", i -> k.letter(0, 0, i), 1, 2, 26);
        row("zzzzzz", i -> k.letter(0, 1, i), 26, 26, 26, 26, 26, 26);
        row("qq", i -> k.letter(1, 1, i), 17, 17);
        sentence("0 behind it;");
        row("abz", i -> k.letter(0, 0, 3 + i), 0, 0, 0);
        row("q", i -> k.letter(1, 0, 1 + i), 0, 0, 0, 0, 0);
        sentence("NONE when there is none such.");
        outside("letter(0, 0, k)", 0, 5, i -> k.letter(0, 0, i), NONE);
        outside("letter(1, 0, k)", 0, 5, i -> k.letter(1, 0, i), NONE);
        outside("letter(0, which, 0)", 0, 1, i -> k.letter(0, i, 0), NONE);
        outside("letter(1, which, 0)", 0, 1, i -> k.letter(1, i, 0), NONE);
        outside("letter(kind, 0, 0)", 0, 1, i -> k.letter(i, 0, 0), NONE);
        due("without a canal", new CanalKeeper().letter(0, 0, 0), NONE);
    }

    private static int named(CanalKeeper k, int kind, String name) {
        tape(k, name);
        return k.named(kind);
    }

    private static void named() {
        promise(8);
        CanalKeeper k = told(TWO);
        sentence("The tape (it goes)");
        named(k, 0, "abz");
        tapeGone(k);
        named(k, 0, "none");
        tapeGone(k);
        named(k, 5, "abz");
        tapeGone(k);
        sentence("is a NAME, byte by byte, nothing else:");
        for (String name : new String[] {" abz", "abz ", "abz\n", "ab z", "abz;", "ABZ", "abZ", "abz\0", "abz`", "`abz", "abz{", "ab"}) {
            due("named(0) of " + name, named(k, 0, name), NONE);
        }
        due("a 7th letter", named(k, 0, "zzzzzzz"), NONE);
        due("no byte", named(k, 0, ""), NONE);
        due("no byte, an OUTLET", named(k, 1, ""), NONE);
        due("a sign ahead of a", named(k, 0, "`"), NONE);
        tape(k, "abzabz");
        k.end(3);
        due("what was behind its end makes no matter", k.named(0), 0);
        sentence("the POOL (kind 0), the OUTLET (1) of that NAME;");
        due("abz", named(k, 0, "abz"), 0);
        due("zzzzzz", named(k, 0, "zzzzzz"), 1);
        due("q", named(k, 1, "q"), 0);
        due("qq", named(k, 1, "qq"), 1);
        sentence("NONE when there is none such.");
        due("a POOL is no OUTLET", named(k, 1, "abz"), NONE);
        due("an OUTLET is no POOL", named(k, 0, "q"), NONE);
        due("no such NAME", named(k, 1, "qqq"), NONE);
        due("an OWN WORD", named(k, 0, "pool"), NONE);
        outside("kind", 0, 1, kind -> named(k, kind, "abz"), NONE);
        outside("kind", 0, 1, kind -> named(k, kind, "q"), NONE);
        due("without a canal", named(new CanalKeeper(), 0, "a"), NONE);
    }

    private static void pools() {
        promise(9);
        CanalKeeper k = told(TWO);
        sentence("Of a POOL: 0 VOLUME, 1, 2 its BAND, 3 CREST, 4 DELAY, 5 LEAK, 6 ON ITS WAY, 7 MIDDLE,");
        row("pool(0, what)", what -> k.pool(0, what), 10, 20, 31, 40, 2, 1, 0, 25);
        row("pool(1, what)", what -> k.pool(1, what), 5, 0, 3, 4, 1, 2, 0, 1);
        k.steps(2);
        due("3 and 5 passed", k.pool(0, 6), 8);
        sentence("8 whether it is in its BAND (0), below (1), above (2).");
        CanalKeeper four = told(DRY + pool("a", 9, 10, 20, 99, 0, 0, 0, 1, 0) + pool("b", 10, 10, 20, 99, 0, 0, 0, 1, 0)
            + pool("c", 20, 10, 20, 99, 0, 0, 0, 1, 0) + pool("d", 21, 10, 20, 99, 0, 0, 0, 1, 0));
        row("BANDS", i -> four.pool(i, 8), 1, 0, 0, 2);
        sentence("NONE when there is none such, or for others.");
        outside("pool(pool, 0)", 0, 1, i -> k.pool(i, 0), NONE);
        outside("pool(0, what)", 0, 8, what -> k.pool(0, what), NONE);
        due("without a canal", new CanalKeeper().pool(0, 0), NONE);
        due("without POOLS", told(DRY).pool(0, 0), NONE);
    }

    private static void gate() {
        promise(10);
        CanalKeeper k = told(TWO);
        sentence("Of a GATE: 0 OPENING, 1 MOST, 2 BY, 3 WANTED at this STEP,");
        // LOAD of GATE 1 at 0 is 2 and qq's 2 (OPEN at 1 by turns); VOLUME is 4 above MIDDLE, by 2.
        row("gate(1, what)", what -> k.gate(1, what), 1, 8, 1, 2);
        // LOAD of GATE 0 is 3 and both OUTLETS' 7 (q at 2, qq at 3); VOLUME is 15 below MIDDLE, by 2: held.
        row("gate(0, what)", what -> k.gate(0, what), 3, 9, 2, 9);
        sentence("4 what was told by hand (NONE: nothing),");
        due("nothing", k.gate(0, 4), NONE);
        k.hand(0, 0);
        due("0", k.gate(0, 4), 0);
        due("the other", k.gate(1, 4), NONE);
        k.hand(0, NONE);
        due("nothing any more", k.gate(0, 4), NONE);
        sentence("5 what it passed in the latest STEP (0 ahead of any).");
        due("ahead of any", k.gate(0, 5), 0);
        k.steps(1);
        row("passed", i -> k.gate(i, 5), 3, 1);
        k.steps(1);
        due("passed in the latest", k.gate(0, 5), 5);
        k.undo();
        due("undone", k.gate(0, 5), 3);
        k.undo();
        due("ahead of any again", k.gate(0, 5), 0);
        sentence("NONE when there is none such, or for others.");
        outside("gate(gate, 0)", 0, 1, i -> k.gate(i, 0), NONE);
        outside("gate(0, what)", 0, 5, what -> k.gate(0, what), NONE);
        due("without a canal", new CanalKeeper().gate(0, 0), NONE);
    }

    private static void rows() {
        promise(11);
        sentence("How much water ON ITS WAY in a POOL arrives in the k-th STEP from now on (0: in this one;");
        CanalKeeper k = told("canal gives 99;" + pool("a", 0, 0, 999, 999, 9, 0, 99, 1, 1));
        k.hand(0, 99);
        k.steps(9);
        row("row(0, k)", i -> k.row(0, i), 1, 2, 3, 4, 5, 6, 7, 8, 9);
        k.steps(1);
        due("what was in row 0 is VOLUME", k.pool(0, 0), 1);
        row("row(0, k)", i -> k.row(0, i), 2, 3, 4, 5, 6, 7, 8, 9, 10);
        sentence("k below DELAY);");
        due("row(0, 8)", k.row(0, 8), 10);
        due("row(0, 9)", k.row(0, 9), NONE);
        CanalKeeper d = told(TWO);
        row("DELAY 2", i -> d.row(0, i), 0, 0, NONE);
        row("DELAY 1", i -> d.row(1, i), 0, NONE);
        due("DELAY 0", told(DRY + pool("a", 0, 0, 9, 9, 0, 0, 9, 1, 0)).row(0, 0), NONE);
        sentence("NONE when there is none such.");
        outside("row(0, k)", 0, 8, i -> k.row(0, i), NONE);
        outside("row(pool, 0)", 0, 0, i -> k.row(i, 0), NONE);
        due("without a canal", new CanalKeeper().row(0, 0), NONE);
    }

    private static void outlet() {
        promise(12);
        CanalKeeper k = told(TWO);
        sentence("Of an OUTLET: 0 POOL, 1 takes, 2 whether OPEN at this STEP,");
        row("outlet(0, what)", what -> k.outlet(0, what), 0, 5, 0);
        row("outlet(1, what)", what -> k.outlet(1, what), 1, 2, 1);
        k.steps(1);
        due("OPEN at 1", k.outlet(0, 2), 1);
        sentence("3 what it TOOK in all, 4 SHORT in all,");
        CanalKeeper s = told(DRY + pool("a", 12, 0, 99, 99, 0, 0, 0, 1, 0) + "outlet x at a takes 5;order x from 0 for 4;");
        int[] took = {0, 5, 10, 12, 12, 12};
        int[] lacked = {0, 0, 0, 3, 8, 8};
        for (int t = 0; t < took.length; t++) {
            due("TOOK at " + t, s.outlet(0, 3), took[t]);
            due("SHORT at " + t, s.outlet(0, 4), lacked[t]);
            s.steps(1);
        }
        sentence("5 how many STEPS water needs from GATE 0 to it.");
        row("needs", i -> k.outlet(i, 5), 2, 3);
        StringBuilder far = new StringBuilder(DRY);
        for (char name = 'a'; name <= 'h'; name++) {
            far.append(pool("" + name, 0, 0, 9, 9, 9, 0, 9, 1, 0));
        }
        due("the most", told(far + "outlet x at h takes 1;").outlet(0, 5), 72);
        due("none", told(DRY + pool("a", 0, 0, 9, 9, 0, 0, 9, 1, 0) + "outlet x at a takes 1;").outlet(0, 5), 0);
        sentence("NONE when there is none such, or for others.");
        outside("outlet(outlet, 0)", 0, 1, i -> k.outlet(i, 0), NONE);
        outside("outlet(0, what)", 0, 5, what -> k.outlet(0, what), NONE);
        due("without a canal", new CanalKeeper().outlet(0, 0), NONE);
    }

    private static void order() {
        promise(13);
        CanalKeeper k = told(TWO);
        sentence("Of an ORDER: 0 OUTLET, 1 from, 2 for,");
        row("order(1, what)", what -> k.order(1, what), 1, 2, 9);
        row("order(2, what)", what -> k.order(2, what), 0, 9, 2);
        sentence("3 whether to come (0), going on (1), over (2).");
        int[] states = {0, 1, 1, 1, 2, 2};
        for (int t = 0; t < states.length; t++) {
            due("from 1 for 3 at " + t, k.order(0, 3), states[t]);
            k.steps(1);
        }
        sentence("NONE when there is none such, or for others.");
        outside("order(order, 0)", 0, 2, i -> k.order(i, 0), NONE);
        outside("order(0, what)", 0, 3, what -> k.order(0, what), NONE);
        due("without a canal", new CanalKeeper().order(0, 0), NONE);
        k.cancel(0);
        due("one that went", k.order(2, 0), NONE);
    }

    private static void opens() {
        promise(14);
        sentence("Whether an OUTLET is OPEN at a STEP (0 .. 9999): 1, 0;");
        CanalKeeper k = told(DRY + pool("a", 9, 0, 9, 9, 0, 0, 0, 1, 0)
            + "outlet x at a takes 1;outlet y at a takes 1;order x from 0 for 2;turns 10 y,x;");
        row("x", t -> k.opens(0, t), 1, 1, 0);
        due("y at 9999, by 999 mod 2", k.opens(1, 9999), 0);
        due("x at 9999", k.opens(0, 9999), 1);
        due("x at 9989", k.opens(0, 9989), 0);
        k.ask(1, 9999, 99);
        due("y at 9999 by an ORDER", k.opens(1, 9999), 1);
        due("y at 9998", k.opens(1, 9998), 0);
        k.steps(5);
        due("a STEP that went", k.opens(0, 0), 1);
        sentence("NONE when there are none such.");
        outside("opens(0, step)", 0, 9999, t -> k.opens(0, t), NONE);
        outside("opens(outlet, 0)", 0, 1, i -> k.opens(i, 0), NONE);
        due("without a canal", new CanalKeeper().opens(0, 0), NONE);
    }

    private static void load() {
        promise(15);
        sentence("LOAD of a GATE at a STEP (0 .. 9999);");
        CanalKeeper k = told(DRY + pool("a", 9, 0, 9, 9, 9, 3, 0, 1, 0) + "outlet x at a takes 7;");
        k.ask(0, 9999, 10);
        due("at 0", k.load(0, 0), 3);
        due("at 9989", k.load(0, 9989), 3);
        due("at 9990", k.load(0, 9990), 10);
        due("at 9999: OPEN at 10008", k.load(0, 9999), 10);
        k.cancel(0);
        k.ask(0, 9999, 9);
        due("at 9998: OPEN at 10007", k.load(0, 9998), 10);
        due("at 9999: not OPEN at 10008", k.load(0, 9999), 3);
        CanalKeeper eight = told(DRY + times(8, pool("#", 9, 0, 9, 9, 1, 1, 0, 1, 0)) + times(10, "outlet o# at i takes 9;")
            + times(10, "order o# from 8 for 1;"));
        row("of eight GATES at 0", i -> eight.load(i, 0), 98, 7, 6, 5, 4, 3, 2, 1, NONE);
        row("of the last at 6, 7, 8", i -> eight.load(7, 6 + i), 1, 91, 1);
        sentence("NONE when there are none such.");
        outside("load(0, step)", 0, 9999, t -> k.load(0, t), NONE);
        outside("load(gate, 0)", 0, 0, i -> k.load(i, 0), NONE);
        due("without a canal", new CanalKeeper().load(0, 0), NONE);
    }

    private static void account() {
        promise(16);
        // STEP 0: of 10 there 2 leak, x takes 5; STEP 1: 2 leak, x takes 1 and lacks 4; 6 pass in both.
        CanalKeeper k = told("canal gives 6;" + pool("a", 10, 0, 20, 20, 2, 2, 9, 9, 9) + "outlet x at a takes 5;"
            + "order x from 0 for 2;");
        k.hand(0, 9);
        sentence("What was GIVEN (what 0), TAKEN (1), LEAKED (2), went OUT (3), RAINED (4) in all,");
        row("ahead of any", k::account, 0, 0, 0, 0, 0);
        k.steps(2);
        row("behind two", k::account, 12, 6, 4, 0, 0);
        CanalKeeper r = told(DRY + pool("a", 20, 0, 20, 20, 0, 0, 0, 1, 0));
        r.chance(1);
        row("rain by 1 goes OUT", r::account, 0, 0, 0, 19, 19);
        sentence("what is there now, in POOLS and ON ITS WAY (5),");
        due("0 and 12", k.account(5), 12);
        due("20", r.account(5), 20);
        due("without POOLS", told("canal gives 9;").account(5), 0);
        sentence("SHORT in all (6).");
        due("4", k.account(6), 4);
        sentence("NONE for others, or without a canal.");
        outside("account", 0, 6, k::account, NONE);
        row("without a canal", new CanalKeeper()::account, NONE, NONE, NONE, NONE, NONE, NONE, NONE, NONE);
    }

    private static void event() {
        promise(17);
        CanalKeeper k = told(TWO);
        sentence("How many EVENTS there are (k NONE: what makes no matter),");
        for (int what : new int[] {0, 3, 4, -1, MIN, MAX}) {
            due("event(NONE, " + what + ")", k.event(NONE, what), 6);
        }
        due("without a canal", new CanalKeeper().event(NONE, 0), 0);
        due("without ORDERS", told(DRY).event(NONE, 0), 0);
        CanalKeeper full = told(DRY + pool("a", 0, 0, 9, 9, 0, 0, 9, 1, 0) + "outlet x at a takes 1;"
            + times(16, "order x from 1 for 1;"));
        due("of sixteen", full.event(NONE, 0), 32);
        row("ORDERS that begin", i -> full.event(i, 2), 0, 1, 2, 3, 4, 5, 6, 7, 8, 9, 10, 11, 12, 13, 14, 15);
        row("ORDERS that end", i -> full.event(16 + i, 2), 0, 1, 2, 3, 4, 5, 6, 7, 8, 9, 10, 11, 12, 13, 14, 15, NONE);
        sentence("of the k-th: 0 its STEP, 1 the OUTLET, 2 the ORDER, 3 whether it begins (1, 0).");
        row("event(0, what)", what -> k.event(0, what), 1, 0, 0, 1);
        row("event(1, what)", what -> k.event(1, what), 2, 1, 1, 1);
        row("event(2, what)", what -> k.event(2, what), 4, 0, 0, 0);
        row("event(5, what)", what -> k.event(5, what), 11, 1, 1, 0);
        sentence("NONE when there is none such, or for others.");
        due("event(6, 0)", k.event(6, 0), NONE);
        due("event(-2, 0)", k.event(-2, 0), NONE);
        due("event(MIN, 0)", k.event(MIN, 0), NONE);
        due("event(MAX, 0)", k.event(MAX, 0), NONE);
        outside("event(0, what)", 0, 3, what -> k.event(0, what), NONE);
        due("without a canal", new CanalKeeper().event(0, 0), NONE);
        // The farthest that can be: from 9999 for 99.
        full.cancel(0);
        full.ask(0, 9999, 99);
        due("the last one's STEP", full.event(31, 0), 10098);
        due("the last one's ORDER", full.event(31, 2), 15);
    }

    private static void rank() {
        promise(18);
        sentence("The k-th POOL as ranked;");
        CanalKeeper k = told(TWO);
        row("far by 15, 4", k::rank, 0, 1);
        CanalKeeper eight = told(DRY + times(8, pool("#", 5, 0, 9, 9, 0, 0, 0, 1, 0)));
        row("all alike", eight::rank, 0, 1, 2, 3, 4, 5, 6, 7, NONE);
        sentence("NONE when there is none such.");
        outside("rank", 0, 1, k::rank, NONE);
        due("without a canal", new CanalKeeper().rank(0), NONE);
        due("without POOLS", told(DRY).rank(0), NONE);
    }

    /** An ALARM in every other STEP, from 0 on, below its BAND, by CAUSE 5. */
    private static CanalKeeper everyOther() {
        CanalKeeper k = told("canal gives 50;" + pool("a", 10, 10, 10, 90, 0, 0, 9, 9, 3)
            + "outlet x at a takes 5;outlet y at a takes 1;turns 1 x,y;");
        k.hand(0, 3);
        return k;
    }

    private static void alarm() {
        promise(19);
        sentence("Of the k-th told as KEPT, from the oldest on: 0 its STEP, 1 the POOL, 2 CAUSE.");
        CanalKeeper k = everyOther();
        k.steps(5);
        row("STEPS", i -> k.alarm(i, 0), 0, 2, 4, NONE);
        row("the latest", what -> k.alarm(2, what), 4, 0, 5);
        CanalKeeper full = everyOther();
        full.steps(100);
        for (int i = 0; i < 40; i++) {
            due("alarm(" + i + ", 0) of the last 40 of 50", full.alarm(i, 0), 20 + 2 * i);
        }
        sentence("NONE when there is none such, or for others.");
        outside("alarm(k, 0) of 40", 0, 39, i -> full.alarm(i, 0), NONE);
        outside("alarm(k, 0) of 3", 0, 2, i -> k.alarm(i, 0), NONE);
        outside("alarm(0, what)", 0, 2, what -> k.alarm(0, what), NONE);
        due("without a canal", new CanalKeeper().alarm(0, 0), NONE);
        due("none KEPT", told(ONE).alarm(0, 0), NONE);
    }

    private static void alarms() {
        promise(20);
        sentence("How many told as KEPT have a CAUSE (1 .. 8) and are of a POOL (NONE: any);");
        CanalKeeper k = told(DRY + pool("a", 4, 5, 9, 99, 0, 0, 0, 1, 0) + pool("b", 10, 5, 9, 99, 0, 0, 0, 1, 0)
            + pool("c", 10, 5, 9, 99, 0, 0, 0, 1, 0));
        k.hand(0, 0);
        due("none yet", k.alarms(NONE, 5), 0);
        k.steps(1);
        due("of a by 5", k.alarms(0, 5), 1);
        due("of b by 8", k.alarms(1, 8), 1);
        due("of any by 8", k.alarms(NONE, 8), 2);
        due("of any by 1", k.alarms(NONE, 1), 0);
        due("of a by 8", k.alarms(0, 8), 0);
        CanalKeeper full = everyOther();
        full.steps(100);
        due("50 were, 40 are told", full.alarms(0, 5), 40);
        due("of any", full.alarms(NONE, 5), 40);
        due("without a canal", new CanalKeeper().alarms(NONE, 8), 0);
        sentence("NONE when there are none such.");
        outside("alarms(NONE, cause)", 1, 8, c -> k.alarms(NONE, c), NONE);
        outside("alarms(0, cause)", 1, 8, c -> k.alarms(0, c), NONE);
        for (int pool : new int[] {-2, 3, MIN, MAX}) {
            due("alarms(" + pool + ", 8)", k.alarms(pool, 8), NONE);
        }
        due("of a POOL without a canal", new CanalKeeper().alarms(0, 8), NONE);
    }

    private static void flow() {
        promise(21);
        sentence("Of a POOL in the k-th latest STEP (1 .. 40; 1: the latest):");
        CanalKeeper k = told(DRY + pool("a", 99, 0, 99, 99, 0, 1, 0, 1, 0));
        for (int n = 1; n <= 45; n++) {
            k.steps(1);
            due("the latest of " + n, k.flow(0, 1, 2), 100 - n);
            due("the first of " + n, k.flow(0, n, 2), n <= 40 ? 99 : NONE);
            due("one more than " + n, k.flow(0, n + 1, 2), NONE);
        }
        due("the 40th latest of 45", k.flow(0, 40, 2), 94);
        sentence("0 CAME, 1 WENT, 2 VOLUME ahead of it, 3 what its GATE passed.");
        CanalKeeper one = told("canal gives 9;" + pool("a", 20, 0, 99, 99, 1, 2, 9, 9, 4) + "outlet x at a takes 5;"
            + "order x from 0 for 9;");
        one.hand(0, 6);
        one.steps(2);
        row("the 2nd latest", what -> one.flow(0, 2, what), 0, 5, 20, 4);
        row("the latest", what -> one.flow(0, 1, what), 4, 5, 13, 6);
        sentence("NONE when there is none such, or for others.");
        outside("flow(0, k, 0) of 45", 1, 40, i -> k.flow(0, i, 0), NONE);
        outside("flow(0, k, 0) of 2", 1, 2, i -> one.flow(0, i, 0), NONE);
        outside("flow(pool, 1, 0)", 0, 0, i -> one.flow(i, 1, 0), NONE);
        outside("flow(0, 1, what)", 0, 3, what -> one.flow(0, 1, what), NONE);
        due("ahead of any", told(ONE).flow(0, 1, 0), NONE);
        due("without a canal", new CanalKeeper().flow(0, 1, 0), NONE);
    }

    private static void missing() {
        promise(22);
        sentence("CAME less WENT of a POOL in the latest n STEPS (1 .. 40), less what VOLUME is now more than ahead of these.");
        CanalKeeper k = told("canal gives 9;" + pool("a", 50, 0, 99, 99, 1, 3, 9, 1, 4)
            + pool("b", 5, 0, 9, 9, 0, 2, 9, 2, 3) + "outlet x at a takes 5;outlet y at b takes 1;turns 2 x,y;");
        k.seed(5);
        for (int n = 1; n <= 45; n++) {
            k.chance(1);
            due("LEAKS of a in 1 of " + n, k.missing(0, 1), 3);
        }
        due("LEAKS of a in 40", k.missing(0, 40), 120);
        int sum = 0;
        for (int n = 1; n <= 40; n++) {
            sum += k.flow(1, n, 0) - k.flow(1, n, 1);
            due("of b in " + n, k.missing(1, n), sum - (k.pool(1, 0) - k.flow(1, n, 2)));
        }
        sentence("NOTHING when there were not so many, or there is none such.");
        outside("missing(0, n) of 45", 1, 40, n -> k.missing(0, n), NOTHING);
        outside("missing(pool, 1)", 0, 1, i -> k.missing(i, 1), NOTHING);
        CanalKeeper two = told(ONE);
        due("ahead of any", two.missing(0, 1), NOTHING);
        two.steps(2);
        due("2 of 2", two.missing(0, 2), 2);
        outside("missing(0, n) of 2", 1, 2, n -> two.missing(0, n), NOTHING);
        due("without a canal", new CanalKeeper().missing(0, 1), NOTHING);
    }

    private static void later() {
        promise(23);
        sentence("VOLUME of a POOL behind n STEPS AHEAD (0 .. 200);");
        CanalKeeper k = told(DRY + pool("a", 999, 0, 999, 999, 0, 3, 0, 1, 0) + pool("b", 400, 0, 999, 999, 0, 2, 0, 1, 0));
        row("later(0, n)", n -> k.later(0, n), 999, 996, 993);
        due("later(0, 200)", k.later(0, 200), 399);
        due("later(1, 199)", k.later(1, 199), 2);
        due("later(1, 200)", k.later(1, 200), 0);
        sentence("NONE when n can't be, or there is none such.");
        outside("later(0, n)", 0, 200, n -> k.later(0, n), NONE);
        outside("later(pool, 0)", 0, 1, i -> k.later(i, 0), NONE);
        due("without a canal", new CanalKeeper().later(0, 0), NONE);
        CanalKeeper last = told(DRY + pool("a", 9999, 0, 9999, 9999, 0, 1, 0, 1, 0));
        for (int i = 0; i < 99; i++) {
            last.steps(100);
        }
        last.steps(99);
        due("from the last STEP on", last.later(0, 200), 0);
    }

    private static void opening() {
        promise(24);
        sentence("OPENING of a GATE behind n STEPS AHEAD (0 .. 200);");
        CanalKeeper k = told(DRY + pool("a", 5, 0, 9, 9, 0, 0, 999, 2, 5) + pool("b", 5, 0, 9, 9, 0, 0, 999, 1, 0));
        k.hand(0, 999);
        k.hand(1, 999);
        row("opening(0, n)", n -> k.opening(0, n), 5, 7, 9);
        due("opening(0, 200)", k.opening(0, 200), 405);
        due("opening(1, 200)", k.opening(1, 200), 200);
        due("it stays", k.gate(0, 0), 5);
        // As far as can be: 8 DELAYS of 9 behind 200 STEPS.
        CanalKeeper far = told(DRY + times(8, pool("#", 9, 9, 9, 9, 9, 0, 99, 99, 0)) + "outlet x at i takes 7;"
            + "order x from 272 for 1;");
        due("opening(0, 199) for STEP 272", far.opening(0, 199), 0);
        due("opening(0, 200) for STEP 272", far.opening(0, 200), 7);
        due("opening(7, 200) for STEP 272", far.opening(7, 200), 0);
        sentence("NONE likewise.");
        outside("opening(0, n)", 0, 200, n -> k.opening(0, n), NONE);
        outside("opening(gate, 0)", 0, 1, i -> k.opening(i, 0), NONE);
        due("without a canal", new CanalKeeper().opening(0, 0), NONE);
    }

    private static void when() {
        promise(25);
        sentence("With how many STEPS AHEAD (1 .. 200)");
        due("at 1", told(DRY + pool("a", 200, 200, 999, 999, 0, 1, 0, 1, 0)).when(0, 0), 1);
        due("at 200", told(DRY + pool("a", 200, 1, 999, 999, 0, 1, 0, 1, 0)).when(0, 0), 200);
        due("at 201", told(DRY + pool("a", 201, 1, 999, 999, 0, 1, 0, 1, 0)).when(0, 0), NONE);
        sentence("a POOL is below its BAND (what 0), above it (1), in it (2) for the first time;");
        // 9 is above 3 .. 6 and leaks 2: 7, 5, 3, 1, 0.
        CanalKeeper k = told(DRY + pool("a", 9, 3, 6, 99, 0, 2, 0, 1, 0));
        row("when(0, what)", what -> k.when(0, what), 4, 1, 2);
        k.steps(1);
        row("when(0, what) of 7", what -> k.when(0, what), 3, NONE, 1);
        // Above 5, by 1 a STEP from 3 on.
        CanalKeeper up = told("canal gives 1;" + pool("a", 3, 0, 5, 99, 0, 0, 1, 1, 1));
        up.hand(0, 1);
        row("when(0, what) rising", what -> up.when(0, what), NONE, 3, 1);
        CanalKeeper now = told(DRY + pool("a", 2, 3, 6, 99, 0, 0, 0, 1, 0));
        row("when(0, what) that stays", what -> now.when(0, what), 1, NONE, NONE);
        sentence("NONE when it never is, there is none such, or for others.");
        due("never above 999", told(DRY + pool("a", 0, 0, 999, 999, 0, 0, 0, 1, 0)).when(0, 1), NONE);
        outside("when(pool, 0)", 0, 0, i -> k.when(i, 0), NONE);
        outside("when(0, what)", 0, 2, what -> k.when(0, what), NONE);
        due("without a canal", new CanalKeeper().when(0, 0), NONE);
    }

    private static void lacks() {
        promise(26);
        CanalKeeper k = told(DRY + pool("a", 10, 0, 99, 99, 0, 0, 0, 1, 0) + "outlet x at a takes 4;outlet y at a takes 3;"
            + "order x from 0 for 99;order y from 1 for 99;order x from 150 for 99;");
        sentence("How much is SHORT in n STEPS AHEAD (1 .. 200);");
        // 6 are left behind STEP 0; in STEP 1 x takes 4, y 2 and lacks 1; then all is SHORT.
        row("lacks(NONE, n)", n -> k.lacks(NONE, n + 1), 0, 1, 8, 15);
        due("lacks(NONE, 200)", k.lacks(NONE, 200), 97 * 4 + 1 + 98 * 3 + 50 * 4);
        due("lacks(NONE, 199)", k.lacks(NONE, 199), 97 * 4 + 1 + 98 * 3 + 49 * 4);
        k.steps(3);
        due("what was SHORT is not AHEAD", k.lacks(NONE, 1), 7);
        row("what was SHORT of each is not AHEAD", i -> k.lacks(i, 1), 4, 3);
        k.undo();
        sentence("of an OUTLET (NONE: of all).");
        row("lacks(outlet, 3)", i -> k.lacks(i, 3), 4, 4);
        row("lacks(outlet, 200)", i -> k.lacks(i, 200), 97 * 4 + 50 * 4, 1 + 98 * 3);
        sentence("NONE when n can't be, there is none such, or without a canal.");
        outside("lacks(NONE, n)", 1, 200, n -> k.lacks(NONE, n), NONE);
        outside("lacks(0, n)", 1, 200, n -> k.lacks(0, n), NONE);
        for (int outlet : new int[] {-2, 2, MIN, MAX}) {
            due("lacks(" + outlet + ", 1)", k.lacks(outlet, 1), NONE);
        }
        due("without a canal", new CanalKeeper().lacks(NONE, 1), NONE);
        due("without POOLS", told(DRY).lacks(NONE, 1), 0);
    }

    private static void least() {
        promise(27);
        sentence("The least that the canal would have to give (0 .. 999) so that nothing is SHORT in n STEPS AHEAD (1 .. 60);");
        String head = "canal gives 1;" + pool("a", 0, 0, 9999, 9999, 0, 0, 999, 999, 999);
        CanalKeeper k = told(head + "outlet x at a takes 7;order x from 1 for 1;order x from 59 for 3;");
        due("least(1)", k.least(1), 0);
        due("least(2)", k.least(2), 7);
        due("gives stays", k.has(4), 1);
        CanalKeeper late = told("canal gives 1;" + pool("a", 0, 0, 10, 10, 0, 0, 99, 99, 99)
            + "outlet x at a takes 99;order x from 59 for 1;");
        late.hand(0, 99);
        due("least(59)", late.least(59), 0);
        due("least(60): CREST 10 can't keep it", late.least(60), NONE);
        // 5 leak each STEP: only more than 5 fill it up to 10, so that 5 are left for x.
        late = told("canal gives 1;" + pool("a", 0, 0, 10, 10, 0, 5, 99, 99, 99) + "outlet x at a takes 5;order x from 59 for 1;");
        late.hand(0, 99);
        due("least(59) with a LEAK", late.least(59), 0);
        due("least(60) with a LEAK", late.least(60), 6);
        // Each STEP 5 go on to b: of 26 there 6 are left at STEP 4, and 10 are taken.
        CanalKeeper two = told(DRY + pool("a", 26, 0, 99, 99, 0, 0, 5, 5, 5) + pool("b", 0, 0, 99, 99, 0, 0, 5, 5, 5)
            + "outlet x at a takes 10;order x from 4 for 1;");
        two.hand(0, 5);
        two.hand(1, 5);
        due("least(4) of two POOLS", two.least(4), 0);
        due("least(5) of two POOLS", two.least(5), 1);
        StringBuilder ten = new StringBuilder();
        for (char name = 'p'; name < 'z'; name++) {
            ten.append("outlet ").append(name).append(" at a takes 99;order ").append(name).append(" from 1 for 1;");
        }
        due("999", told(head.replace("leak 0", "leak 9") + ten).least(2), 999);
        sentence("NONE when by none, n can't be, or without POOLS.");
        due("1000", told(head.replace("leak 0", "leak 10") + ten).least(2), NONE);
        due("SHORT at once", told(head + "outlet x at a takes 7;order x from 0 for 1;").least(1), NONE);
        outside("least", 1, 60, k::least, NONE);
        due("without POOLS", told(DRY).least(1), NONE);
        due("without a canal", new CanalKeeper().least(1), NONE);
    }

    private static void gain() {
        promise(28);
        sentence("The GAIN (1 .. 30) by which POOLS are fewest times out of their BANDS behind n STEPS AHEAD "
            + "(1 .. 100; each POOL, each STEP),");
        // b draws 992 / GAIN from a, which may lose 33: 992 / 30; were it 32, that would be GAIN 31.
        String b = pool("b", 0, 0, 1984, 9999, 1, 0, 999, 999, 0);
        CanalKeeper k = told(DRY + pool("a", 100, 67, 200, 200, 0, 0, 0, 1, 0) + b);
        due("30", k.gain(2, 0), 30);
        due("30, times", k.gain(2, 1), 0);
        CanalKeeper beyond = told(DRY + pool("a", 100, 68, 200, 200, 0, 0, 0, 1, 0) + b);
        due("31 is none", beyond.gain(2, 0), 1);
        due("31 is none, times", beyond.gain(2, 1), 1);
        CanalKeeper all = told(DRY + pool("a", 0, 1, 2, 99, 0, 0, 0, 1, 0) + pool("b", 9, 1, 2, 99, 0, 0, 0, 1, 0)
            + pool("c", 1, 1, 2, 99, 0, 0, 0, 1, 0));
        due("two POOLS in 1", all.gain(1, 1), 2);
        due("two POOLS in 100", all.gain(100, 1), 200);
        CanalKeeper late = told(DRY + pool("a", 100, 1, 999, 999, 0, 1, 0, 1, 0));
        due("99 STEPS in it", late.gain(99, 1), 0);
        due("the 100th not", late.gain(100, 1), 1);
        sentence("of like ones the least (what 0),");
        due("all alike", all.gain(100, 0), 1);
        sentence("how many times (1).");
        // Behind the first STEP out; behind the second 20 / GAIN are there: in by 1 and 2.
        CanalKeeper up = told("canal gives 99;" + pool("a", 0, 10, 30, 99, 0, 0, 99, 99, 0));
        due("once", up.gain(2, 1), 1);
        due("GAIN stays", up.has(5), 4);
        sentence("NONE when n can't be, without POOLS, or for others.");
        outside("gain(n, 0)", 1, 100, n -> k.gain(n, 0), NONE);
        outside("gain(n, 1)", 1, 100, n -> k.gain(n, 1), NONE);
        outside("gain(1, what)", 0, 1, what -> k.gain(1, what), NONE);
        due("without POOLS", told(DRY).gain(1, 0), NONE);
        due("without POOLS, times", told(DRY).gain(1, 1), NONE);
        due("without a canal", new CanalKeeper().gain(1, 0), NONE);
    }

    private static void best() {
        promise(29);
        sentence("What a GATE would have to be told by hand (0 .. MOST) so that its POOL is fewest times out of its BAND "
            + "behind n STEPS AHEAD (1 .. 40),");
        // What passes from the second STEP on is what was told: 20, the most, brings 20 behind the second.
        CanalKeeper k = told("canal gives 50;" + pool("a", 0, 20, 20, 90, 0, 0, 20, 20, 0));
        due("MOST", k.best(0, 2, 0), 20);
        due("MOST, times", k.best(0, 2, 1), 1);
        CanalKeeper less = told("canal gives 50;" + pool("a", 0, 20, 20, 90, 0, 0, 19, 20, 0));
        due("MOST is 1 less", less.best(0, 2, 0), 0);
        due("MOST is 1 less, times", less.best(0, 2, 1), 2);
        CanalKeeper none = told("canal gives 50;" + pool("a", 5, 5, 5, 90, 0, 0, 20, 20, 0));
        due("0", none.best(0, 40, 0), 0);
        due("0, times", none.best(0, 40, 1), 0);
        CanalKeeper late = told(DRY + pool("a", 40, 1, 99, 99, 0, 1, 9, 9, 0));
        due("39 STEPS in it", late.best(0, 39, 1), 0);
        due("the 40th not", late.best(0, 40, 1), 1);
        // Only its own POOL counts: b draws from a.
        CanalKeeper two = told(DRY + pool("a", 50, 50, 50, 90, 0, 0, 0, 1, 0) + pool("b", 0, 10, 10, 90, 0, 0, 20, 20, 0));
        due("the lower GATE", two.best(1, 2, 0), 10);
        due("the lower GATE, times", two.best(1, 2, 1), 1);
        due("the upper GATE can do nothing", two.best(0, 2, 0), 0);
        due("b draws 2 in the second STEP, times of a alone", two.best(0, 2, 1), 1);
        // 10, 20, 30, 40 pass: 100 are there behind the fifth STEP, and by nothing less.
        CanalKeeper tens = told("canal gives 99;" + pool("a", 0, 100, 100, 900, 0, 0, 90, 10, 0));
        due("by tens", tens.best(0, 5, 0), 40);
        due("by tens, times", tens.best(0, 5, 1), 4);
        sentence("of like ones the least (what 0),");
        // 10, 11, 12 are alike.
        CanalKeeper like = told("canal gives 50;" + pool("a", 0, 10, 12, 90, 0, 0, 20, 20, 0));
        due("10 of 10 to 12", like.best(0, 2, 0), 10);
        due("all alike", like.best(0, 1, 0), 0);
        sentence("how many times (1).");
        due("1 STEP", like.best(0, 1, 1), 1);
        due("2 STEPS", like.best(0, 2, 1), 1);
        due("3 STEPS: 5 and 5, or 10 and too much", like.best(0, 3, 1), 2);
        due("by hand stays", like.gate(0, 4), NONE);
        sentence("NONE when n can't be, there is none such, or for others.");
        outside("best(0, n, 0)", 1, 40, n -> k.best(0, n, 0), NONE);
        outside("best(0, n, 1)", 1, 40, n -> k.best(0, n, 1), NONE);
        outside("best(gate, 1, 0)", 0, 0, i -> k.best(i, 1, 0), NONE);
        outside("best(0, 1, what)", 0, 1, what -> k.best(0, 1, what), NONE);
        due("without a canal", new CanalKeeper().best(0, 1, 0), NONE);
    }

    private static void fits() {
        promise(30);
        sentence("The first STEP (from now on, 60 of them) from which one more ORDER of an OUTLET");
        // Only STEPS that the told ORDER has are free of harm: all that is there is taken by it.
        for (int from = 0; from <= 61; from++) {
            CanalKeeper k = told(DRY + pool("a", 100, 0, 200, 200, 0, 0, 0, 1, 0)
                + "outlet x at a takes 5;order x from " + from + " for 99;");
            due("fits(0, 1) with an ORDER from " + from, k.fits(0, 1), from < 60 ? from : NONE);
        }
        CanalKeeper now = told(DRY + pool("a", 9999, 0, 9999, 9999, 0, 0, 0, 1, 0) + "outlet x at a takes 5;");
        now.steps(7);
        due("from now on", now.fits(0, 1), 7);
        due("no ORDER came", now.has(2), 0);
        sentence("for n STEPS (1 .. 99)");
        due("fits(0, 1)", now.fits(0, 1), 7);
        due("fits(0, 99)", now.fits(0, 99), 7);
        CanalKeeper ten = told(DRY + pool("a", 50, 0, 99, 99, 0, 0, 0, 1, 0) + "outlet x at a takes 5;");
        due("10 STEPS of 5 are there", ten.fits(0, 10), 0);
        due("11 are not", ten.fits(0, 11), NONE);
        sentence("would leave no more SHORT of all in 200 STEPS AHEAD than without it;");
        harmOfAnother();
        // The GATE opens for the ORDER, 2 STEPS ahead of it; to open for STEP 1 is the first that it can.
        CanalKeeper opens = told("canal gives 9;" + pool("a", 0, 0, 1, 99, 2, 0, 9, 9, 0) + "outlet x at a takes 5;");
        due("what opens for it is counted", opens.fits(0, 4), 3);
        // What is SHORT already, and what will be anyway, is no harm of it.
        CanalKeeper dry = told(DRY + pool("a", 0, 0, 99, 99, 0, 0, 0, 1, 0) + "outlet x at a takes 5;order x from 2 for 3;");
        due("at the same STEPS", dry.fits(0, 3), 2);
        due("at one more", dry.fits(0, 4), NONE);
        sentence("NONE when from none, n can't be, there are 16, or there is none such.");
        outside("fits(0, n)", 1, 99, n -> now.fits(0, n), NONE);
        outside("fits(outlet, 1)", 0, 0, i -> now.fits(i, 1), NONE);
        for (int i = 0; i < 15; i++) {
            now.ask(0, 300, 1);
        }
        due("with 15", now.fits(0, 1), 7);
        now.ask(0, 300, 1);
        due("with 16", now.fits(0, 1), NONE);
        due("without a canal", new CanalKeeper().fits(0, 1), NONE);
    }

    /** Water for y is there in its last STEP, the 200th or the 201st AHEAD; x would take it. */
    private static void harmOfAnother() {
        for (int from = 199; from <= 200; from++) {
            CanalKeeper k = told(DRY + pool("a", 5, 0, 99, 99, 0, 0, 0, 1, 0) + "outlet x at a takes 5;outlet y at a takes 5;"
                + "order y from " + from + " for 1;");
            due("fits(0, 1) with y from " + from, k.fits(0, 1), from == 199 ? NONE : 0);
        }
    }

    private static int seeBytes(CanalKeeper k, int pool, int... bytes) {
        byte[] all = new byte[bytes.length];
        for (int i = 0; i < bytes.length; i++) {
            all[i] = (byte) bytes[i];
        }
        tape(k, all);
        return k.see(pool);
    }

    private static void sees() {
        promise(31);
        CanalKeeper k = told(DRY + pool("a", 9999, 0, 9999, 9999, 0, 3, 0, 1, 0) + pool("b", 258, 0, 999, 999, 0, 3, 0, 1, 0));
        sentence("The tape (it goes) tells what is SEEN of a POOL,");
        due("see(1)", see(k, 1, 1, 255), 1);
        tapeGone(k);
        due("LEAK", k.leaks(0), 3);
        sentence("1 to 10 rows of three bytes (STEPS AHEAD 1 .. 40; a VOLUME, the higher byte first):");
        due("1 row", seeBytes(k, 1, 1, 1, 0), 1);
        due("258 less 2 is 1, 0", k.leaks(0), 2);
        due("10 rows", see(k, 0, 1, 9998, 2, 9997, 3, 9996, 4, 9995, 5, 9994, 6, 9993, 7, 9992, 8, 9991, 9, 9990, 40, 9959), 10);
        due("all ten are so by 1", k.leaks(0), 1);
        see(k, 0, 1, 9998, 2, 9997, 3, 9996, 4, 9995, 5, 9994, 6, 9993, 7, 9992, 8, 9991, 9, 9990, 40, 9958);
        due("the tenth is not so", k.leaks(NONE), 0);
        due("40 STEPS", see(k, 0, 40, 9799), 1);
        due("LEAK by 40 STEPS", k.leaks(0), 5);
        due("the lowest VOLUME", see(k, 0, 1, 0), 1);
        due("the highest VOLUME", see(k, 0, 1, 65535), 1);
        sentence("how many rows;");
        for (int rows = 1; rows <= 10; rows++) {
            int[] all = new int[2 * rows];
            Arrays.fill(all, 1);
            due(rows + " rows", see(k, 0, all), rows);
            due("has(7)", k.has(7), rows);
        }
        sentence("NONE, refused (5), all staying, when it is none such, or there is no such POOL.");
        see(k, 1, 1, 256, 2, 254);
        int[][] bad = {{}, {1}, {1, 0}, {1, 0, 0, 1}, {1, 0, 0, 1, 0}, {0, 0, 0}, {41, 0, 0}, {128, 0, 0}, {255, 0, 0},
            {1, 0, 0, 0, 0, 0}, {1, 0, 0, 41, 0, 0}, new int[33], new int[60]};
        Arrays.fill(bad[11], 1);
        Arrays.fill(bad[12], 1);
        for (int[] bytes : bad) {
            refused("see(0) of " + bytes.length + " bytes", k, 5, () -> seeBytes(k, 0, bytes));
            due("feed begins anew", k.feed(0, 0, 0, 0, 0), 20);
            k.end(0);
        }
        for (int pool : new int[] {2, -1, -2, MIN, MAX}) {
            refused("see(" + pool + ")", k, 5, () -> see(k, pool, 1, 1));
            due("feed begins anew", k.feed(0, 0, 0, 0, 0), 20);
            k.end(0);
        }
        due("what was SEEN stays", k.leaks(0), 2);
        due("its rows stay", k.has(7), 2);
        CanalKeeper none = new CanalKeeper();
        refused("without a canal", none, 5, () -> see(none, 0, 1, 1));
    }

    private static void leaks() {
        promise(32);
        CanalKeeper k = told(DRY + pool("a", 50, 0, 90, 90, 0, 3, 0, 1, 0));
        see(k, 0, 2, 0);
        sentence("FITS by what is SEEN: how many (k NONE),");
        due("25 to 40", k.leaks(NONE), 16);
        sentence("the k-th, rising.");
        for (int i = 0; i < 16; i++) {
            due("leaks(" + i + ")", k.leaks(i), 25 + i);
        }
        sentence("NONE when there is none such, or nothing is SEEN.");
        due("leaks(16)", k.leaks(16), NONE);
        due("leaks(-2)", k.leaks(-2), NONE);
        due("leaks(MIN)", k.leaks(MIN), NONE);
        due("leaks(MAX)", k.leaks(MAX), NONE);
        see(k, 0, 1, 51);
        due("how many of none", k.leaks(NONE), 0);
        due("the first of none", k.leaks(0), NONE);
        tape(k, DRY + pool("a", 50, 0, 90, 90, 0, 3, 0, 1, 0));
        k.canal();
        due("nothing is SEEN", k.leaks(NONE), NONE);
        due("nothing is SEEN, the first", k.leaks(0), NONE);
        see(k, 0, 1, 50);
        due("all 41 of an empty POOL", allFit(), 41);
        due("without a canal", new CanalKeeper().leaks(NONE), NONE);
    }

    private static int allFit() {
        CanalKeeper k = told(DRY + pool("a", 0, 0, 90, 90, 0, 3, 0, 1, 0));
        see(k, 0, 1, 0);
        row("the last of 41", i -> k.leaks(40 + i), 40, NONE);
        return k.leaks(NONE);
    }

    private static void tells() {
        promise(33);
        sentence("TELLING: the number of STEPS AHEAD (what 0),");
        CanalKeeper k = told(DRY + pool("a", 50, 0, 90, 90, 0, 3, 0, 1, 0));
        see(k, 0, 40, 0);
        due("1: all of 2 to 40 differ", k.tells(0), 1);
        CanalKeeper late = told("canal gives 40;" + pool("a", 0, 0, 99, 99, 2, 0, 40, 40, 40));
        late.hand(0, 40);
        see(late, 0, 2, 0);
        due("3: then it arrives", late.tells(0), 3);
        sentence("how many FITS are left at the most (1).");
        due("1", k.tells(1), 1);
        see(k, 0, 1, 40);
        due("1 of the only one", k.tells(1), 1);
        see(k, 0, 40, 0);
        CanalKeeper empty = told(DRY + pool("a", 0, 0, 90, 90, 0, 3, 0, 1, 0));
        see(empty, 0, 1, 0);
        due("41", empty.tells(1), 41);
        due("41, by the first", empty.tells(0), 1);
        sentence("NONE without FITS, for others, or when nothing is SEEN.");
        outside("tells", 0, 1, k::tells, NONE);
        see(k, 0, 1, 51);
        due("without FITS", k.tells(0), NONE);
        due("without FITS, how many", k.tells(1), NONE);
        CanalKeeper nothing = told(ONE);
        due("nothing is SEEN", nothing.tells(0), NONE);
        due("nothing is SEEN, how many", nothing.tells(1), NONE);
        due("without a canal", new CanalKeeper().tells(0), NONE);
    }

    /** Behind 99 times 100 STEPS. */
    private static CanalKeeper nearTheEnd() {
        CanalKeeper k = told(ONE);
        for (int i = 0; i < 99; i++) {
            k.steps(100);
        }
        return k;
    }

    private static void steps() {
        promise(34);
        sentence("n STEPS go (1 .. 100): STEP;");
        CanalKeeper k = told(ONE);
        due("steps(1)", k.steps(1), 1);
        due("steps(100)", k.steps(100), 101);
        due("STEP", k.has(3), 101);
        due("without POOLS", told(DRY).steps(100), 100);
        sentence("NONE, refused (2), when n can't be,");
        for (int n : new int[] {0, -1, 101, MIN, MAX}) {
            refused("steps(" + n + ")", k, 2, () -> k.steps(n));
        }
        sentence("it would be beyond 9999,");
        CanalKeeper end = nearTheEnd();
        refused("steps(100) from 9900", end, 2, () -> end.steps(100));
        due("steps(99) from 9900", end.steps(99), 9999);
        refused("steps(1) from 9999", end, 2, () -> end.steps(1));
        sentence("or without a canal.");
        CanalKeeper none = new CanalKeeper();
        refused("steps(1)", none, 2, () -> none.steps(1));
        tape(none, "canal gives ;");
        none.canal();
        refused("steps(1) behind a FAULT", none, 2, () -> none.steps(1));
    }

    private static void chance() {
        promise(35);
        sentence("n STEPS by the seed (1 .. 60): STEP;");
        CanalKeeper k = told(ONE);
        due("chance(1)", k.chance(1), 1);
        due("chance(60)", k.chance(60), 61);
        due("STEP", k.has(3), 61);
        sentence("NONE, refused (2), likewise,");
        for (int n : new int[] {0, -1, 61, 100, MIN, MAX}) {
            refused("chance(" + n + ")", k, 2, () -> k.chance(n));
        }
        CanalKeeper end = nearTheEnd();
        end.steps(40);
        refused("chance(60) from 9940", end, 2, () -> end.chance(60));
        due("chance(59) from 9940", end.chance(59), 9999);
        refused("chance(1) from 9999", end, 2, () -> end.chance(1));
        CanalKeeper none = new CanalKeeper();
        refused("without a canal", none, 2, () -> none.chance(1));
        sentence("or without POOLS.");
        CanalKeeper dry = told(DRY);
        refused("chance(1)", dry, 2, () -> dry.chance(1));
    }

    private static void ask() {
        promise(36);
        sentence("One more ORDER of an OUTLET from a STEP on (now or later, 9999 at most) for so many (1 .. 99): its number;");
        CanalKeeper k = told(ONE);
        k.steps(4);
        due("now", k.ask(0, 4, 1), 1);
        due("the last", k.ask(0, 9999, 99), 2);
        row("order(1, what)", what -> k.order(1, what), 0, 4, 1, 1);
        row("order(2, what)", what -> k.order(2, what), 0, 9999, 99, 0);
        sentence("NONE, refused (3), when these can't be,");
        for (int from : new int[] {3, 0, -1, 10000, MIN, MAX}) {
            refused("ask(0, " + from + ", 1)", k, 3, () -> k.ask(0, from, 1));
        }
        for (int many : new int[] {0, -1, 100, MIN, MAX}) {
            refused("ask(0, 4, " + many + ")", k, 3, () -> k.ask(0, 4, many));
        }
        CanalKeeper end = nearTheEnd();
        end.steps(99);
        due("at 9999", end.ask(0, 9999, 1), 1);
        refused("ask(0, 9998, 1) at 9999", end, 3, () -> end.ask(0, 9998, 1));
        refused("ask(0, 10000, 1) at 9999", end, 3, () -> end.ask(0, 10000, 1));
        sentence("there are 16,");
        for (int i = 3; i < 16; i++) {
            due("number " + i, k.ask(0, 50, 1), i);
        }
        refused("the 17th", k, 3, () -> k.ask(0, 50, 1));
        k.cancel(0);
        due("again the 16th", k.ask(0, 50, 1), 15);
        sentence("or there is none such.");
        k.cancel(0);
        for (int outlet : new int[] {1, -1, MIN, MAX}) {
            refused("ask(" + outlet + ", 50, 1)", k, 3, () -> k.ask(outlet, 50, 1));
        }
        CanalKeeper none = new CanalKeeper();
        refused("without a canal", none, 3, () -> none.ask(0, 0, 1));
    }

    private static void cancel() {
        promise(37);
        sentence("An ORDER goes: true;");
        CanalKeeper k = told(TWO);
        due("the last", k.cancel(2), true);
        due("ORDERS", k.has(2), 2);
        due("the first", k.cancel(0), true);
        due("the one that is left", k.order(0, 1), 2);
        due("that too", k.cancel(0), true);
        due("ORDERS", k.has(2), 0);
        due("q is not OPEN by it", k.opens(0, 1), 0);
        sentence("false, refused (3), when there is none such.");
        denied("cancel(0) of none", k, 3, () -> k.cancel(0));
        CanalKeeper three = told(TWO);
        for (int order : new int[] {3, 16, -1, MIN, MAX}) {
            denied("cancel(" + order + ")", three, 3, () -> three.cancel(order));
        }
        CanalKeeper none = new CanalKeeper();
        denied("without a canal", none, 3, () -> none.cancel(0));
    }

    private static void hand() {
        promise(38);
        sentence("A GATE is told by hand (0 .. MOST), or not any more (NONE): true;");
        CanalKeeper k = told(TWO);
        due("hand(0, 0)", k.hand(0, 0), true);
        due("told", k.gate(0, 4), 0);
        due("hand(0, 9)", k.hand(0, 9), true);
        due("told", k.gate(0, 4), 9);
        due("hand(1, 8)", k.hand(1, 8), true);
        due("hand(0, NONE)", k.hand(0, NONE), true);
        due("not any more", k.gate(0, 4), NONE);
        due("the other is", k.gate(1, 4), 8);
        sentence("false, refused (3), when it is so,");
        denied("hand(0, NONE)", k, 3, () -> k.hand(0, NONE));
        denied("hand(1, 8)", k, 3, () -> k.hand(1, 8));
        sentence("it can't be,");
        for (int wanted : new int[] {10, -2, MIN, MAX}) {
            denied("hand(0, " + wanted + ")", k, 3, () -> k.hand(0, wanted));
        }
        denied("hand(1, 9)", k, 3, () -> k.hand(1, 9));
        sentence("or there is none such.");
        for (int gate : new int[] {2, -1, MIN, MAX}) {
            denied("hand(" + gate + ", 0)", k, 3, () -> k.hand(gate, 0));
            denied("hand(" + gate + ", NONE)", k, 3, () -> k.hand(gate, NONE));
        }
        CanalKeeper none = new CanalKeeper();
        denied("without a canal", none, 3, () -> none.hand(0, 0));
    }

    private static void set() {
        promise(39);
        CanalKeeper k = told(TWO);
        sentence("What 0: a POOL has another LEAK (0 .. 99);");
        due("set(0, 1, 99)", k.set(0, 1, 99), true);
        due("LEAK", k.pool(1, 5), 99);
        due("set(0, 1, 0)", k.set(0, 1, 0), true);
        due("LEAK", k.pool(1, 5), 0);
        due("the other's", k.pool(0, 5), 1);
        sentence("1: the canal gives another (0 .. 999; which is 0);");
        due("set(1, 0, 999)", k.set(1, 0, 999), true);
        due("gives", k.has(4), 999);
        due("set(1, 0, 0)", k.set(1, 0, 0), true);
        due("gives", k.has(4), 0);
        sentence("2: another GAIN (1 .. 99; which is 0): true;");
        due("set(2, 0, 99)", k.set(2, 0, 99), true);
        due("GAIN", k.has(5), 99);
        due("set(2, 0, 1)", k.set(2, 0, 1), true);
        due("GAIN", k.has(5), 1);
        sentence("false, refused (3), when it is that,");
        denied("set(0, 1, 0)", k, 3, () -> k.set(0, 1, 0));
        denied("set(0, 0, 1)", k, 3, () -> k.set(0, 0, 1));
        denied("set(1, 0, 0)", k, 3, () -> k.set(1, 0, 0));
        denied("set(2, 0, 1)", k, 3, () -> k.set(2, 0, 1));
        sentence("these can't be,");
        for (int v : new int[] {-1, 100, MIN, MAX}) {
            denied("set(0, 0, " + v + ")", k, 3, () -> k.set(0, 0, v));
            denied("set(2, 0, " + v + ")", k, 3, () -> k.set(2, 0, v));
            denied("set(1, 0, " + v * 10 + ")", k, 3, () -> k.set(1, 0, v == 100 ? 1000 : v));
        }
        denied("set(2, 0, 0)", k, 3, () -> k.set(2, 0, 0));
        for (int which : new int[] {2, -1, MIN, MAX}) {
            denied("set(0, " + which + ", 5)", k, 3, () -> k.set(0, which, 5));
        }
        for (int which : new int[] {1, -1, MIN, MAX}) {
            denied("set(1, " + which + ", 5)", k, 3, () -> k.set(1, which, 5));
            denied("set(2, " + which + ", 5)", k, 3, () -> k.set(2, which, 5));
        }
        for (int what : new int[] {3, -1, MIN, MAX}) {
            denied("set(" + what + ", 0, 5)", k, 3, () -> k.set(what, 0, 5));
        }
        sentence("or without a canal.");
        CanalKeeper none = new CanalKeeper();
        for (int what = 0; what <= 2; what++) {
            int which = what;
            denied("set(" + what + ", 0, 5)", none, 3, () -> none.set(which, 0, 5));
        }
        due("without POOLS, gives", told(DRY).set(1, 0, 5), true);
        due("without POOLS, GAIN", told(DRY).set(2, 0, 5), true);
        due("without POOLS, LEAK", told(DRY).set(0, 0, 5), false);
    }

    private static void undo() {
        promise(40);
        sentence("The latest ACT is undone");
        CanalKeeper k = told(TWO);
        String[] states = new String[10];
        for (int i = 0; i < 9; i++) {
            states[i] = state(k);
            due("ACT " + i, someAct(k, i), true);
        }
        for (int i = 8; i >= 0; i--) {
            due("undo() of " + i, k.undo(), true);
            due("all as ahead of " + i, state(k).equals(states[i]), true);
        }
        undoneWhole();
        sentence("(the seed, what is SEEN stay): true;");
        k.seed(3);
        k.chance(2);
        k.seed(8);
        see(k, 0, 1, 9, 2, 9);
        due("undo()", k.undo(), true);
        due("the seed", k.has(9), 8);
        due("SEEN", k.has(7), 2);
        k.chance(1);
        int seed = k.has(9);
        due("undo()", k.undo(), true);
        due("the seed behind two draws", k.has(9), seed);
        sentence("false, refused (4), when none can be.");
        denied("of none", k, 4, k::undo);
        for (int i = 0; i < 21; i++) {
            k.steps(1);
        }
        for (int i = 0; i < 20; i++) {
            due("undo()", k.undo(), true);
        }
        denied("of the 21st", k, 4, k::undo);
        k.steps(0);
        denied("of one that was refused", k, 4, k::undo);
        k.seed(4);
        see(k, 0, 1, 1);
        denied("of seed() and see()", k, 4, k::undo);
        k.steps(1);
        tape(k, TWO);
        k.canal();
        denied("of what was ahead of canal()", k, 4, k::undo);
        CanalKeeper none = new CanalKeeper();
        denied("without a canal", none, 4, none::undo);
    }

    /** All 40 ALARMS, and all flows of 8 POOLS in 40 STEPS, are put back. */
    private static void undoneWhole() {
        CanalKeeper alarms = everyOther();
        alarms.steps(100);
        String state = state(alarms);
        alarms.steps(51);
        due("undo()", alarms.undo(), true);
        due("all ALARMS as they were", state(alarms).equals(state), true);
        CanalKeeper flows = told("canal gives 50;" + times(8, pool("#", 40, 30, 50, 60, 1, 1, 30, 3, 9)));
        flows.chance(60);
        flows.seed(7);
        state = state(flows);
        flows.chance(59);
        due("undo()", flows.undo(), true);
        flows.seed(7);
        due("all flows as they were", state(flows).equals(state), true);
    }

    /** One ACT of each kind, without a DRAW: the seed would stay, and state() has it. */
    private static boolean someAct(CanalKeeper k, int which) {
        return switch (which) {
            case 0 -> k.steps(3) == 3;
            case 1 -> k.ask(0, 7, 2) == 3;
            case 2 -> k.cancel(1);
            case 3 -> k.hand(0, 1);
            case 4 -> k.set(0, 0, 7);
            case 5 -> k.set(1, 0, 77);
            case 6 -> k.set(2, 0, 7);
            case 7 -> k.steps(100) == 103;
            default -> k.hand(0, NONE);
        };
    }

    private static void seed() {
        promise(41);
        sentence("The seed: true;");
        CanalKeeper k = new CanalKeeper();
        for (int seed : new int[] {0, 1, MAX, 5, 5}) {
            due("seed(" + seed + ")", k.seed(seed), true);
            due("has(9)", k.has(9), seed);
        }
        sentence("false, refused (5), when it is below 0.");
        for (int seed : new int[] {-1, -2, MIN, MIN + 1}) {
            denied("seed(" + seed + ")", k, 5, () -> k.seed(seed));
        }
    }

    private static void status() {
        promise(42);
        CanalKeeper k = new CanalKeeper();
        sentence("How many were refused: 0 feed(), end();");
        fill(k, 81);
        k.end(-1);
        row("status", k::status, 2, 0, 0, 0, 0, 0);
        sentence("1 canal();");
        k.canal();
        k.canal();
        k.canal();
        row("status", k::status, 2, 3, 0, 0, 0, 0);
        sentence("2 steps(), chance();");
        k.steps(1);
        k.chance(1);
        row("status", k::status, 2, 3, 2, 0, 0, 0);
        sentence("3 ask(), cancel(), hand(), set();");
        k.ask(0, 0, 1);
        k.cancel(0);
        k.hand(0, 0);
        k.set(0, 0, 0);
        row("status", k::status, 2, 3, 2, 4, 0, 0);
        sentence("4 undo();");
        k.undo();
        row("status", k::status, 2, 3, 2, 4, 1, 0);
        sentence("5 seed(), see().");
        k.seed(-1);
        k.see(0);
        row("status", k::status, 2, 3, 2, 4, 1, 2);
        k.named(0);
        k.later(0, -1);
        k.letter(9, 9, 9);
        row("what is only asked is not refused", k::status, 2, 3, 2, 4, 1, 2);
        tape(k, TWO);
        k.canal();
        k.steps(1);
        k.undo();
        row("they stay with another canal, behind undo()", k::status, 2, 3, 2, 4, 1, 2);
        sentence("NONE for others.");
        outside("status", 0, 5, k::status, NONE);
    }
}
