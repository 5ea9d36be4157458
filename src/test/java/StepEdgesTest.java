/** Terms II and III, sentence by sentence, each with the numbers at which it begins or ceases to hold. */
public final class StepEdgesTest extends Check {
    private static final String DRY = "canal gives 0;";
    /** Two OUTLETS at a POOL that nothing comes to. */
    private static final String STILL = DRY + pool("a", 50, 0, 99, 99, 0, 0, 0, 1, 0)
        + "outlet x at a takes 1;outlet y at a takes 1;";

    private StepEdgesTest() {
    }

    public static void main(String[] args) {
        part("Terms", "Water is kept", "Asked are");
        waterIsKept();
        part("Terms II", "POOLS, OUTLETS, ORDERS are numbered", "III. AHEAD");
        whatAPoolHas();
        openByOrders();
        openByTurns();
        loads();
        wanted();
        waterArrives();
        waterLeaks();
        outletsTake();
        gatesPass();
        waterGoesOver();
        gatesMove();
        alarms();
        cameAndWent();
        causesBelow();
        causesAbove();
        acts();
        actsUndone();
        draws();
        part("Terms III", "AHEAD are STEPS", "\n\nThe constants");
        ahead();
        events();
        ranks();
        seen();
        telling();
        finish();
    }

    private static void waterIsKept() {
        sentence("Water is kept: all that was given, rained is taken, leaked, gone out, or there.");
        CanalKeeper k = told("canal gives 30;" + pool("a", 90, 20, 40, 50, 3, 4, 40, 9, 20)
            + pool("b", 3, 10, 20, 25, 0, 9, 20, 5, 0) + pool("c", 0, 0, 5, 5, 9, 1, 9, 1, 9)
            + "outlet x at a takes 9;outlet y at b takes 20;outlet z at c takes 3;turns 2 x,y,z;order y from 9 for 30;");
        int atFirst = k.account(5);
        due("at first", atFirst, 93);
        for (int n = 1; n <= 60; n++) {
            k.chance(1);
            due("taken, leaked, gone out, there behind " + n, k.account(1) + k.account(2) + k.account(3) + k.account(5),
                atFirst + k.account(0) + k.account(4));
        }
        for (int what = 0; what <= 5; what++) {
            due("there was some of " + what, k.account(what) > 0, true);
        }
    }

    private static void whatAPoolHas() {
        sentence("POOLS, OUTLETS, ORDERS are numbered from 0 on as told.");
        CanalKeeper k = told(DRY + pool("b", 5, 0, 9, 9, 0, 0, 0, 1, 0) + pool("a", 6, 0, 9, 9, 0, 0, 0, 1, 0)
            + "outlet z at b takes 1;outlet y at a takes 2;order y from 4 for 1;order z from 5 for 1;");
        row("VOLUMES", i -> k.pool(i, 0), 5, 6);
        row("NAMES of POOLS", i -> k.letter(0, i, 0), 2, 1);
        row("NAMES of OUTLETS", i -> k.letter(1, i, 0), 26, 25);
        row("OUTLETS of ORDERS", i -> k.order(i, 0), 1, 0);
        CanalKeeper p = told(DRY + pool("a", 50, 20, 61, 80, 3, 5, 40, 7, 30));
        sentence("A POOL has a VOLUME (holds, at first),");
        due("VOLUME", p.pool(0, 0), 50);
        due("VOLUME above CREST", told(DRY + pool("a", 90, 0, 9, 9, 0, 0, 0, 1, 0)).pool(0, 0), 90);
        sentence("a BAND (low to high),");
        CanalKeeper four = told(DRY + pool("a", 19, 20, 61, 99, 0, 0, 0, 1, 0) + pool("b", 20, 20, 61, 99, 0, 0, 0, 1, 0)
            + pool("c", 61, 20, 61, 99, 0, 0, 0, 1, 0) + pool("d", 62, 20, 61, 99, 0, 0, 0, 1, 0));
        row("in its BAND", i -> four.pool(i, 8), 1, 0, 0, 2);
        due("those that are not, as bits", four.has(10), 9);
        sentence("a CREST, a DELAY, a LEAK,");
        row("what it has", what -> p.pool(0, what), 50, 20, 61, 80, 3, 5);
        sentence("a MIDDLE: low and high together, halved, cut;");
        due("MIDDLE", p.pool(0, 7), 40);
        int[][] bands = {{0, 0, 0}, {0, 1, 0}, {1, 1, 1}, {0, 9999, 4999}, {9998, 9999, 9998}, {9999, 9999, 9999}};
        for (int[] band : bands) {
            due("MIDDLE of " + band[0] + " and " + band[1],
                told(DRY + pool("a", 0, band[0], band[1], 9999, 0, 0, 0, 1, 0)).pool(0, 7), band[2]);
        }
        sentence("at its head a GATE with an OPENING (open, at first), a MOST, a BY;");
        row("what it has", what -> p.gate(0, what), 30, 40, 7);
        sentence("water ON ITS WAY (none at first).");
        due("ON ITS WAY", p.pool(0, 6), 0);
        row("row", i -> p.row(0, i), 0, 0, 0, -1);
    }

    private static void openByOrders() {
        sentence("An OUTLET is OPEN at a STEP, if that is one of the so many from the beginning of an ORDER of it on,");
        CanalKeeper k = told(STILL + "order x from 3 for 2;order x from 8 for 1;order y from 5 for 1;");
        row("x", t -> k.opens(0, t), 0, 0, 0, 1, 1, 0, 0, 0, 1, 0);
        row("y", t -> k.opens(1, t), 0, 0, 0, 0, 0, 1, 0, 0, 0, 0);
        CanalKeeper first = told(STILL + "order x from 0 for 1;");
        row("x from 0", t -> first.opens(0, t), 1, 0);
        CanalKeeper last = told(STILL + "order x from 999 for 99;");
        row("x from 999", t -> last.opens(0, 998 + t), 0, 1);
        row("x from 999 for 99", t -> last.opens(0, 1097 + t), 1, 0);
    }

    private static void openByTurns() {
        sentence("or in turns of N with k OUTLETS it is the one of number (STEP / N cut) mod k.");
        CanalKeeper k = told(STILL + "outlet z at a takes 1;turns 3 y,x,z;");
        row("y", t -> k.opens(1, t), 1, 1, 1, 0, 0, 0, 0, 0, 0, 1, 1, 1, 0);
        row("x", t -> k.opens(0, t), 0, 0, 0, 1, 1, 1, 0, 0, 0, 0, 0, 0, 1);
        row("z", t -> k.opens(2, t), 0, 0, 0, 0, 0, 0, 1, 1, 1, 0, 0, 0, 0);
        CanalKeeper long6 = told(DRY + pool("a", 9, 0, 9, 9, 0, 0, 0, 1, 0) + times(6, "outlet # at a takes 1;")
            + "turns 30 b,c,d,e,f,g;");
        row("the first at 0, 29, 30", i -> long6.opens(0, new int[] {0, 29, 30, 179, 180}[i]), 1, 1, 0, 0, 1);
        row("the last at 149, 150, 179, 180", i -> long6.opens(5, new int[] {149, 150, 179, 180}[i]), 0, 1, 1, 0);
        CanalKeeper both = told(STILL + "turns 1 x,y;turns 2 x,y;order y from 0 for 1;");
        row("x by one of two", t -> both.opens(0, t), 1, 1, 1, 0, 1, 1);
        row("y by one of two or its ORDER", t -> both.opens(1, t), 1, 1, 1, 1, 0, 1);
    }

    private static void loads() {
        sentence("LOAD of a GATE at a STEP t: takes of all OUTLETS at its POOL and those below that are OPEN at t and, "
            + "further, all DELAYS of the POOLS from its own to theirs;");
        String pools = DRY + pool("a", 9, 0, 9, 9, 1, 2, 9, 1, 0) + pool("b", 9, 0, 9, 9, 0, 3, 9, 1, 0)
            + pool("c", 9, 0, 9, 9, 2, 0, 9, 1, 0);
        CanalKeeper k = told(pools + "outlet x at a takes 10;outlet y at b takes 20;outlet z at c takes 40;"
            + "order x from 5 for 1;order y from 5 for 1;order z from 5 for 1;");
        row("GATE 0", t -> k.load(0, t), 5, 5, 45, 5, 35, 5, 5);
        row("GATE 1", t -> k.load(1, t), 3, 3, 3, 43, 3, 23, 3);
        row("GATE 2", t -> k.load(2, t), 0, 0, 0, 40, 0, 0, 0);
        CanalKeeper twice = told(STILL + "order x from 0 for 2;order x from 1 for 2;turns 1 x,y;");
        row("OPEN twice is OPEN", t -> twice.load(0, t), 1, 2, 1, 1);
        sentence("and LEAKS of all these POOLS.");
        CanalKeeper leaks = told(pools);
        row("without OUTLETS", g -> leaks.load(g, 0), 5, 3, 0);
        leaks.set(0, 2, 99);
        row("with another LEAK", g -> leaks.load(g, 0), 104, 102, 99);
    }

    private static int wantedOf(String keep, int holds, int low, int high, int leak, int most) {
        return told(DRY + keep + pool("a", holds, low, high, 9999, 0, leak, most, 1, 0)).gate(0, 3);
    }

    private static void wanted() {
        sentence("WANTED of a GATE at t: told by hand;");
        CanalKeeper k = told(DRY + "keep 1;" + pool("a", 0, 50, 50, 90, 0, 7, 40, 1, 0));
        due("not by hand", k.gate(0, 3), 40);
        for (int wanted : new int[] {3, 0, 40}) {
            k.hand(0, wanted);
            due("by hand", k.gate(0, 3), wanted);
        }
        k.hand(0, -1);
        due("not by hand any more", k.gate(0, 3), 40);
        sentence("else LOAD, and MIDDLE less VOLUME now, by GAIN, cut towards 0;");
        int[] holds = {4, 5, 7, 8, 10, 12, 13, 15, 16};
        int[] want = {6, 5, 5, 4, 4, 4, 3, 3, 2};
        row("by 3", i -> wantedOf("keep 3;", holds[i], 0, 20, 4, 99), want);
        due("by 1", wantedOf("keep 1;", 4, 0, 20, 4, 99), 10);
        due("98 by 99", wantedOf("keep 99;", 2, 0, 200, 0, 99), 0);
        due("99 by 99", wantedOf("keep 99;", 1, 0, 200, 0, 99), 1);
        CanalKeeper now = told(DRY + pool("a", 10, 0, 20, 90, 0, 0, 99, 99, 0) + "outlet x at a takes 10;"
            + "order x from 1 for 1;");
        due("at 0", now.gate(0, 3), 0);
        now.steps(1);
        due("at 1", now.gate(0, 3), 10);
        now.steps(1);
        due("at 2", now.gate(0, 3), 2);
        sentence("both held in 0 .. MOST.");
        row("around 0", i -> wantedOf("keep 1;", 13 + i, 0, 20, 4, 6), 1, 0, 0, 0);
        row("around MOST", i -> wantedOf("keep 1;", 9 - i, 0, 20, 4, 6), 5, 6, 6, 6);
        due("MOST 0", wantedOf("keep 1;", 0, 0, 20, 4, 0), 0);
    }

    private static void waterArrives() {
        sentence("A STEP t goes: (1) in each POOL what passed its GATE DELAY STEPS ago arrives: it is VOLUME;");
        for (int d = 0; d <= 9; d++) {
            CanalKeeper k = told("canal gives 9;" + pool("a", 100, 0, 999, 999, d, 0, 9, 9, 7));
            k.hand(0, 0);
            for (int n = 1; n <= 25; n++) {
                k.steps(1);
                due("VOLUME by DELAY " + d + " behind " + n, k.pool(0, 0), n > d ? 107 : 100);
                due("ON ITS WAY by DELAY " + d + " behind " + n, k.pool(0, 6), n > d ? 0 : 7);
            }
            aStream(d);
        }
    }

    /** What passes is 1 more in each STEP, up to 9, so that no place of the row is like another. */
    private static void aStream(int delay) {
        CanalKeeper k = told("canal gives 9;" + pool("a", 100, 0, 999, 999, delay, 0, 9, 1, 0));
        k.hand(0, 9);
        int volume = 100;
        for (int n = 1; n <= 30; n++) {
            k.steps(1);
            volume += Math.max(0, Math.min(n - 1 - delay, 9));
            due("VOLUME by DELAY " + delay + " behind " + n, k.pool(0, 0), volume);
            for (int i = 0; i < delay; i++) {
                due("row(0, " + i + ") by DELAY " + delay + " behind " + n, k.row(0, i),
                    Math.max(0, Math.min(n + i - delay, 9)));
            }
        }
    }

    private static void waterLeaks() {
        sentence("(2) of each LEAK of its VOLUME, or all, leaks;");
        CanalKeeper k = told(DRY + pool("a", 8, 0, 99, 99, 0, 9, 0, 1, 0) + pool("b", 9, 0, 99, 99, 0, 9, 0, 1, 0)
            + pool("c", 10, 0, 99, 99, 0, 9, 0, 1, 0) + pool("d", 10, 0, 99, 99, 0, 0, 0, 1, 0));
        k.steps(1);
        row("VOLUME", i -> k.pool(i, 0), 0, 0, 1, 10);
        due("LEAKED", k.account(2), 26);
        k.steps(1);
        row("VOLUME", i -> k.pool(i, 0), 0, 0, 0, 10);
        due("LEAKED", k.account(2), 27);
        CanalKeeper late = told("canal gives 4;" + pool("a", 0, 0, 99, 99, 1, 9, 4, 4, 4));
        late.hand(0, 0);
        late.steps(1);
        due("on its way nothing leaks", late.pool(0, 6), 4);
        late.steps(1);
        due("what arrives leaks", late.account(2), 4);
        CanalKeeper atOnce = told("canal gives 4;" + pool("a", 0, 0, 99, 99, 0, 9, 4, 4, 4));
        atOnce.steps(1);
        due("what passes does not leak in its STEP", atOnce.pool(0, 0), 4);
    }

    private static CanalKeeper twoTake(int holds, int leak) {
        CanalKeeper k = told(DRY + pool("a", holds, 0, 99, 99, 0, leak, 0, 1, 0)
            + "outlet x at a takes 8;outlet y at a takes 7;outlet z at a takes 6;"
            + "order y from 0 for 1;order x from 0 for 1;order z from 1 for 1;");
        k.steps(1);
        return k;
    }

    private static void outletsTake() {
        sentence("(3) each OUTLET, by numbers, that is OPEN at t takes what it takes, or all VOLUME;");
        CanalKeeper k = twoTake(12, 0);
        row("TOOK of 12", i -> k.outlet(i, 3), 8, 4, 0);
        due("VOLUME of 12", k.pool(0, 0), 0);
        row("TOOK of 15", i -> twoTake(15, 0).outlet(i, 3), 8, 7, 0);
        due("VOLUME of 16", twoTake(16, 0).pool(0, 0), 1);
        row("TOOK of 8", i -> twoTake(8, 0).outlet(i, 3), 8, 0, 0);
        row("TOOK of 7", i -> twoTake(7, 0).outlet(i, 3), 7, 0, 0);
        row("TOOK of 0", i -> twoTake(0, 0).outlet(i, 3), 0, 0, 0);
        row("TOOK of 12 behind a LEAK of 5", i -> twoTake(12, 5).outlet(i, 3), 7, 0, 0);
        CanalKeeper twice = told(STILL + "order x from 0 for 1;order x from 0 for 1;turns 1 x,y;");
        twice.steps(1);
        due("OPEN three times it takes once", twice.outlet(0, 3), 1);
        CanalKeeper late = told("canal gives 4;" + pool("a", 0, 0, 99, 99, 1, 0, 4, 4, 4)
            + "outlet x at a takes 5;order x from 0 for 2;");
        late.steps(2);
        due("what arrives is taken", late.outlet(0, 3), 4);
        due("what was ahead of it is SHORT", late.outlet(0, 4), 6);
        CanalKeeper atOnce = told("canal gives 5;" + pool("a", 0, 0, 99, 99, 0, 0, 5, 5, 5)
            + "outlet x at a takes 5;order x from 0 for 1;");
        atOnce.steps(1);
        due("what passes comes behind", atOnce.outlet(0, 3), 0);
        due("and stays", atOnce.pool(0, 0), 5);
        sentence("the rest of it is SHORT;");
        row("SHORT of 12", i -> k.outlet(i, 4), 0, 3, 0);
        due("SHORT of 12 in all", k.account(6), 3);
        due("SHORT of 15 in all", twoTake(15, 0).account(6), 0);
        due("SHORT of 14 in all", twoTake(14, 0).account(6), 1);
        row("SHORT of 0", i -> twoTake(0, 0).outlet(i, 4), 8, 7, 0);
        due("SHORT of 0 in all", twoTake(0, 0).account(6), 15);
    }

    private static CanalKeeper passes(int gives, int opening) {
        CanalKeeper k = told("canal gives " + gives + ";" + pool("a", 0, 0, 99, 99, 1, 0, 9, 9, opening));
        k.steps(1);
        return k;
    }

    private static CanalKeeper passesOn(int above, int opening) {
        CanalKeeper k = told(DRY + pool("a", above, 0, 99, 99, 0, 0, 0, 1, 0) + pool("b", 0, 0, 99, 99, 1, 0, 9, 9, opening));
        k.steps(1);
        return k;
    }

    private static void gatesPass() {
        sentence("(4) each GATE, by numbers, passes its OPENING,");
        due("OPENING", passes(9, 5).gate(0, 5), 5);
        due("OPENING 0", passes(9, 0).gate(0, 5), 0);
        due("OPENING, the most", passes(9, 9).gate(0, 5), 9);
        sentence("or all that there is (GATE 0: what the canal gives each STEP;");
        row("given by 4, 5, 6", i -> passes(4 + i, 5).gate(0, 5), 4, 5, 5);
        row("GIVEN by 4, 5, 6", i -> passes(4 + i, 5).account(0), 4, 5, 5);
        due("given nothing", passes(0, 5).gate(0, 5), 0);
        sentence("others: VOLUME of the POOL above):");
        row("of 4, 5, 6", i -> passesOn(4 + i, 5).gate(1, 5), 4, 5, 5);
        row("left of 4, 5, 6", i -> passesOn(4 + i, 5).pool(0, 0), 0, 0, 1);
        due("of nothing", passesOn(0, 5).gate(1, 5), 0);
        sentence("ON ITS WAY in its POOL");
        due("from the canal", passes(9, 5).pool(0, 6), 5);
        due("from above", passesOn(4, 5).pool(1, 6), 4);
        due("not VOLUME yet", passesOn(4, 5).pool(1, 0), 0);
        sentence("(DELAY 0: VOLUME at once);");
        String below = pool("b", 0, 0, 99, 99, 0, 0, 9, 9, 8) + pool("c", 0, 0, 99, 99, 0, 0, 9, 9, 7);
        CanalKeeper k = told("canal gives 9;" + pool("a", 0, 0, 99, 99, 0, 0, 9, 9, 9) + below);
        k.steps(1);
        row("all of it goes down", i -> k.pool(i, 0), 1, 1, 7);
        CanalKeeper late = told("canal gives 9;" + pool("a", 0, 0, 99, 99, 1, 0, 9, 9, 9) + below);
        late.steps(1);
        row("nothing is there to go down", i -> late.pool(i, 0), 0, 0, 0);
    }

    private static void waterGoesOver() {
        sentence("(5) what a POOL, by numbers, has above its CREST goes over:");
        CanalKeeper k = told(DRY + pool("a", 11, 0, 10, 10, 0, 0, 0, 1, 0));
        due("told above its CREST it is there", k.pool(0, 0), 11);
        k.steps(1);
        due("11", k.pool(0, 0), 10);
        due("1 goes", k.account(3), 1);
        k.steps(1);
        due("at its CREST nothing goes", k.account(3), 1);
        CanalKeeper none = told(DRY + pool("a", 9999, 0, 0, 0, 0, 0, 0, 1, 0));
        none.steps(1);
        due("CREST 0 keeps nothing", none.pool(0, 0), 0);
        due("all goes", none.account(3), 9999);
        sentence("to VOLUME of the POOL below,");
        CanalKeeper down = told(DRY + pool("a", 12, 0, 10, 10, 0, 0, 0, 1, 0) + pool("b", 9, 0, 10, 10, 9, 0, 0, 1, 0)
            + pool("c", 10, 0, 10, 10, 9, 0, 0, 1, 0));
        down.steps(1);
        row("VOLUMES", i -> down.pool(i, 0), 10, 10, 10);
        due("1 went through all", down.account(3), 1);
        row("came", i -> down.flow(i, 1, 0), 0, 2, 1);
        row("went", i -> down.flow(i, 1, 1), 2, 1, 1);
        due("not on its way", down.pool(1, 6), 0);
        sentence("of the last one OUT;");
        CanalKeeper out = told(DRY + pool("a", 12, 0, 10, 10, 0, 0, 0, 1, 0) + pool("b", 5, 0, 10, 10, 0, 0, 0, 1, 0));
        out.steps(1);
        due("nothing OUT with room below", out.account(3), 0);
        due("b", out.pool(1, 0), 7);
    }

    private static void gatesMove() {
        sentence("(6) OPENING of each becomes nearer to WANTED");
        int[] hands = {0, 6, 7, 8, 9, 10, 11, 12, 13, 14, 20};
        int[] want = {7, 7, 7, 8, 9, 10, 11, 12, 13, 13, 13};
        for (int i = 0; i < hands.length; i++) {
            CanalKeeper k = told(DRY + pool("a", 5, 0, 9, 9, 0, 0, 20, 3, 10) + pool("b", 5, 0, 9, 9, 0, 0, 20, 3, 10));
            k.hand(0, hands[i]);
            k.hand(1, hands[i]);
            k.steps(1);
            due("GATE 0 towards " + hands[i], k.gate(0, 0), want[i]);
            due("GATE 1 towards " + hands[i], k.gate(1, 0), want[i]);
        }
        sentence("at t + 1");
        CanalKeeper next = told(DRY + pool("a", 50, 0, 100, 100, 0, 0, 99, 99, 0) + "outlet x at a takes 9;"
            + "order x from 2 for 1;");
        int[] openings = {0, 0, 9, 2};
        for (int t = 0; t < openings.length; t++) {
            due("OPENING at " + t, next.gate(0, 0), openings[t]);
            next.steps(1);
        }
        sentence("(by VOLUMES now)");
        CanalKeeper k = told(DRY + "keep 1;" + pool("a", 50, 50, 50, 99, 0, 5, 99, 99, 0));
        k.steps(1);
        due("behind the LEAK", k.gate(0, 0), 10);
        k = told(DRY + "keep 1;" + pool("a", 60, 50, 50, 50, 0, 5, 99, 99, 0));
        k.steps(1);
        due("behind what went over", k.gate(0, 0), 5);
        sentence("by BY, or becomes it;");
        k = told(DRY + pool("a", 5, 0, 9, 9, 0, 0, 999, 999, 0));
        k.hand(0, 999);
        k.steps(1);
        due("all of it at once", k.gate(0, 0), 999);
        k = told(DRY + pool("a", 5, 0, 9, 9, 0, 0, 999, 1, 999));
        k.hand(0, 0);
        k.steps(1);
        due("by 1", k.gate(0, 0), 998);
    }

    private static void alarms() {
        sentence("(7) ALARM: a POOL that is now below its BAND, or above it,");
        CanalKeeper four = told(DRY + pool("a", 4, 5, 9, 99, 0, 0, 0, 1, 0) + pool("b", 5, 5, 9, 99, 0, 0, 0, 1, 0)
            + pool("c", 9, 5, 9, 99, 0, 0, 0, 1, 0) + pool("d", 10, 5, 9, 99, 0, 0, 0, 1, 0));
        four.steps(1);
        due("KEPT", four.has(6), 2);
        row("their POOLS", i -> four.alarm(i, 1), 0, 3, -1);
        sentence("and was not so behind the last STEP");
        four.steps(5);
        due("KEPT by those that stay", four.has(6), 2);
        CanalKeeper k = told("canal gives 50;" + pool("a", 10, 10, 10, 90, 0, 0, 9, 9, 3)
            + "outlet x at a takes 5;outlet y at a takes 1;turns 1 x,y;");
        k.hand(0, 3);
        k.steps(3);
        due("again, when it was in it", k.has(6), 2);
        due("the second's STEP", k.alarm(1, 0), 2);
        CanalKeeper through = told("canal gives 50;" + pool("a", 0, 5, 5, 90, 0, 0, 99, 99, 0));
        through.hand(0, 10);
        through.steps(3);
        row("from below to above, STEPS", i -> through.alarm(i, 0), 0, 1, -1);
        sentence("(at first: none was):");
        due("told out of it, KEPT in STEP 0", four.alarm(0, 0), 0);
        CanalKeeper first = told("canal gives 9;" + pool("a", 0, 5, 9, 99, 0, 0, 9, 9, 5) + "outlet x at a takes 5;"
            + "order x from 1 for 1;");
        first.hand(0, 0);
        first.steps(1);
        due("told below it, in it behind STEP 0", first.has(6), 0);
        first.steps(1);
        due("below it behind STEP 1", first.has(6), 1);
        due("its STEP", first.alarm(0, 0), 1);
        sentence("KEPT (STEP, POOL, CAUSE;");
        row("STEP, POOL, CAUSE", what -> four.alarm(1, what), 0, 3, 8, -1);
        sentence("the last 40 are told).");
        k.steps(75);
        due("told at 78", k.has(6), 39);
        k.steps(1);
        due("told at 79", k.has(6), 40);
        due("the oldest", k.alarm(0, 0), 0);
        k.steps(2);
        due("told at 81", k.has(6), 40);
        due("the oldest", k.alarm(0, 0), 2);
        due("the latest", k.alarm(39, 0), 80);
        sentence("STEP is one more.");
        due("STEP", k.has(3), 81);
        k.steps(1);
        due("STEP", k.has(3), 82);
    }

    private static void cameAndWent() {
        sentence("CAME of a POOL in a STEP: what rains ahead of it,");
        CanalKeeper k = told(DRY + pool("a", 50, 0, 90, 99, 0, 0, 0, 1, 0));
        k.chance(1);
        due("rain by 1", k.flow(0, 1, 0), 19);
        due("went", k.flow(0, 1, 1), 0);
        sentence("arrives");
        k = told("canal gives 4;" + pool("a", 0, 0, 99, 99, 1, 0, 9, 9, 4));
        k.hand(0, 0);
        k.steps(2);
        due("in the STEP in which it passes", k.flow(0, 2, 0), 0);
        due("in that behind", k.flow(0, 1, 0), 4);
        sentence("(DELAY 0: passes its GATE),");
        k = told("canal gives 4;" + pool("a", 0, 0, 99, 99, 0, 0, 9, 9, 4));
        k.hand(0, 0);
        k.steps(2);
        due("in the STEP in which it passes", k.flow(0, 2, 0), 4);
        due("in that behind", k.flow(0, 1, 0), 0);
        sentence("goes over to it;");
        k = told(DRY + pool("a", 17, 0, 10, 10, 0, 0, 0, 1, 0) + pool("b", 5, 0, 10, 10, 0, 0, 0, 1, 0));
        k.steps(1);
        due("came to b", k.flow(1, 1, 0), 7);
        sentence("WENT: what its OUTLETS take,");
        k = twoTake(12, 1);
        due("not what leaks, not what is SHORT", k.flow(0, 1, 1), 11);
        sentence("what passes the GATE below,");
        due("all there was", passesOn(4, 5).flow(0, 1, 1), 4);
        due("what its own GATE passes came", passes(9, 5).flow(0, 1, 1), 0);
        sentence("what goes over");
        k = told(DRY + pool("a", 17, 0, 10, 10, 0, 0, 0, 1, 0) + pool("b", 5, 0, 10, 10, 0, 0, 0, 1, 0));
        k.steps(1);
        due("over to b", k.flow(0, 1, 1), 7);
        due("OUT", k.flow(1, 1, 1), 2);
        sentence("(of the latest 40 STEPS told).");
        CanalKeeper far = told(DRY + pool("a", 60, 0, 99, 99, 0, 1, 0, 1, 0));
        far.steps(41);
        due("VOLUME ahead of the 40th latest", far.flow(0, 40, 2), 59);
        due("the 41st latest", far.flow(0, 41, 2), -1);
    }

    /** The one ALARM of the first STEP, with the GATE of the POOL by hand if that is not NONE. */
    private static void cause(int want, int pool, int hand, String text) {
        CanalKeeper k = told(text);
        if (hand != NONE) {
            k.hand(pool, hand);
        }
        k.steps(1);
        int found = NONE;
        for (int i = 0; i < k.has(6); i++) {
            found = k.alarm(i, 1) == pool ? k.alarm(i, 2) : found;
        }
        due("CAUSE of " + text, found, want);
    }

    private static void causesBelow() {
        sentence("CAUSES, the first of these: below: 1 its GATE passed less in (4) than its OPENING was;");
        // WANTED is 1 and 10 / 4, cut, above MOST; OPENING 1 becomes 2: 2 and 4 hold as well.
        cause(1, 0, NONE, DRY + pool("a", 5, 10, 20, 30, 0, 1, 2, 1, 1));
        cause(2, 0, NONE, "canal gives 1;" + pool("a", 5, 10, 20, 30, 0, 1, 2, 1, 1));
        cause(3, 0, NONE, DRY + pool("a", 5, 10, 20, 30, 0, 0, 9, 1, 0));
        cause(1, 1, NONE, DRY + pool("a", 4, 0, 9, 9, 0, 0, 0, 1, 0) + pool("b", 0, 10, 20, 30, 0, 0, 9, 9, 5));
        cause(5, 1, 5, DRY + pool("a", 5, 0, 9, 9, 0, 0, 0, 1, 0) + pool("b", 0, 10, 20, 30, 0, 0, 9, 9, 5));
        sentence("2 MOST is below WANTED, were that not held above;");
        cause(4, 0, NONE, "canal gives 9;" + pool("a", 5, 10, 20, 30, 0, 1, 3, 9, 0));
        cause(2, 0, NONE, "canal gives 9;" + pool("a", 5, 10, 20, 30, 0, 1, 2, 9, 0));
        cause(2, 0, NONE, "canal gives 9;" + pool("a", 5, 10, 20, 30, 0, 1, 2, 1, 0));
        cause(2, 0, NONE, "canal gives 9;keep 1;" + pool("a", 5, 10, 20, 30, 0, 0, 2, 9, 2));
        cause(5, 0, 2, "canal gives 9;keep 1;" + pool("a", 5, 10, 20, 30, 0, 0, 2, 9, 2));
        sentence("3 its OPENING is not what is WANTED;");
        cause(3, 0, NONE, "canal gives 9;" + pool("a", 5, 10, 20, 30, 0, 1, 9, 2, 0));
        cause(4, 0, NONE, "canal gives 9;" + pool("a", 5, 10, 20, 30, 0, 1, 9, 3, 0));
        cause(3, 0, 0, "canal gives 9;" + pool("a", 2, 10, 20, 30, 0, 0, 9, 1, 2));
        sentence("4 it leaks;");
        cause(4, 0, 0, DRY + pool("a", 5, 10, 20, 30, 0, 1, 9, 1, 0));
        sentence("5 none of these.");
        cause(5, 0, 0, DRY + pool("a", 5, 10, 20, 30, 0, 0, 9, 1, 0));
    }

    private static void causesAbove() {
        String over = DRY + pool("a", 10, 0, 5, 5, 0, 0, 9, 9, 0);
        sentence("Above: 6 water went over to it in (5);");
        cause(6, 1, NONE, over + pool("b", 0, 0, 4, 9, 0, 0, 0, 1, 0));
        cause(6, 1, 0, over + pool("b", 0, 0, 4, 9, 0, 0, 9, 1, 2));
        cause(6, 1, NONE, over + pool("b", 9, 0, 4, 9, 0, 0, 0, 1, 0));
        cause(6, 1, NONE, DRY + pool("a", 6, 0, 5, 5, 0, 0, 0, 1, 0) + pool("b", 4, 0, 4, 9, 0, 0, 0, 1, 0));
        // What goes over from it is not what came, and at the CREST above nothing does.
        cause(8, 0, NONE, DRY + pool("a", 30, 0, 10, 20, 0, 0, 0, 1, 0));
        cause(8, 1, NONE, DRY + pool("a", 5, 0, 5, 5, 0, 0, 9, 9, 0) + pool("b", 5, 0, 4, 9, 0, 0, 0, 1, 0));
        // 1 goes over to b in STEP 0; in STEP 1 its GATE passes 5, as it is told.
        CanalKeeper k = told(DRY + pool("a", 6, 0, 5, 5, 0, 0, 0, 1, 0) + pool("b", 0, 0, 4, 99, 0, 0, 5, 5, 0));
        k.hand(1, 5);
        k.steps(2);
        row("what went over a STEP ago is no CAUSE", what -> k.alarm(0, what), 1, 1, 8);
        sentence("7 its OPENING is not what is WANTED;");
        cause(7, 0, NONE, DRY + pool("a", 10, 0, 5, 20, 0, 0, 9, 1, 2));
        cause(8, 0, NONE, DRY + pool("a", 10, 0, 5, 20, 0, 0, 9, 2, 2));
        sentence("8 none of these.");
        // To lack water or to leak is no CAUSE of being above.
        cause(8, 0, 9, DRY + pool("a", 10, 0, 5, 20, 0, 1, 9, 1, 9));
        sentence("(OPENING, WANTED as behind (6).)");
        // At the first STEP 1 is WANTED, with what opens at the next one 10.
        String next = pool("a", 5, 10, 10, 30, 0, 0, 99, 99, 0) + "outlet x at a takes 9;order x from 1 for 1;";
        cause(5, 0, NONE, "canal gives 9;" + next);
        cause(3, 0, NONE, "canal gives 9;" + next.replace("by 99", "by 9"));
        cause(2, 0, NONE, "canal gives 9;" + next.replace("gate 99", "gate 9"));
        cause(5, 0, NONE, "canal gives 9;" + next.replace("gate 99", "gate 10"));
    }

    private static void oneAct(String call, CanalKeeper k, boolean went) {
        due(call, went, true);
        due("ACTS behind " + call, k.has(8), 1);
        k.undo();
        due("ACTS behind undo() of " + call, k.has(8), 0);
    }

    private static void acts() {
        CanalKeeper k = told("canal gives 9;" + pool("a", 10, 20, 30, 40, 2, 1, 9, 2, 3) + pool("b", 5, 0, 3, 4, 1, 2, 9, 1, 1)
            + "outlet x at a takes 5;outlet y at b takes 2;order x from 1 for 3;order y from 2 for 9;order x from 9 for 2;");
        String state = state(k);
        sentence("ACTS: n STEPS;");
        oneAct("steps(100)", k, k.steps(100) == 100);
        due("all as it was", state(k).equals(state), true);
        sentence("n STEPS by the seed:");
        oneAct("chance(60)", k, k.chance(60) == 60);
        k.seed(1);
        due("all as it was", state(k).equals(state), true);
        sentence("one more ORDER, that begins now or later;");
        oneAct("ask(1, 0, 1)", k, k.ask(1, 0, 1) == 3);
        due("all as it was", state(k).equals(state), true);
        sentence("an ORDER goes (those behind have numbers 1 less);");
        due("cancel(1)", k.cancel(1), true);
        row("from", i -> k.order(i, 1), 1, 9, -1);
        row("OUTLET", i -> k.order(i, 0), 0, 0, -1);
        row("for", i -> k.order(i, 2), 3, 2, -1);
        k.undo();
        oneAct("cancel(2)", k, k.cancel(2));
        oneAct("cancel(0)", k, k.cancel(0));
        due("all as it was", state(k).equals(state), true);
        sentence("a GATE is told by hand (0 .. MOST), or not any more;");
        oneAct("hand(0, 0)", k, k.hand(0, 0));
        oneAct("hand(1, 9)", k, k.hand(1, 9));
        k.hand(0, 3);
        due("hand(0, NONE)", k.hand(0, NONE), true);
        due("ACTS", k.has(8), 2);
        k.undo();
        due("by hand again", k.gate(0, 4), 3);
        k.undo();
        due("all as it was", state(k).equals(state), true);
        sentence("another LEAK;");
        oneAct("set(0, 1, 99)", k, k.set(0, 1, 99));
        sentence("the canal gives another;");
        oneAct("set(1, 0, 999)", k, k.set(1, 0, 999));
        sentence("another GAIN.");
        oneAct("set(2, 0, 99)", k, k.set(2, 0, 99));
        due("all as it was", state(k).equals(state), true);
    }

    private static void actsUndone() {
        sentence("The last 20 can be undone.");
        CanalKeeper k = told(DRY + pool("a", 50, 0, 99, 99, 0, 1, 0, 1, 0));
        for (int i = 1; i <= 45; i++) {
            k.steps(1);
            due("ACTS behind " + i, k.has(8), Math.min(i, 20));
        }
        for (int i = 44; i >= 25; i--) {
            due("undo() to " + i, k.undo(), true);
            due("STEP", k.has(3), i);
            due("VOLUME", k.pool(0, 0), 50 - i);
            due("ACTS", k.has(8), i - 25);
        }
        due("undo() of the 21st", k.undo(), false);
        due("STEP", k.has(3), 25);
        // Behind some that are undone the others count on.
        k.steps(1);
        k.steps(1);
        k.undo();
        k.steps(2);
        due("ACTS", k.has(8), 2);
        k.undo();
        k.undo();
        due("STEP", k.has(3), 25);
        due("undo() of none", k.undo(), false);
    }

    private static long next(long x) {
        return (1103515245L * x + 12345L) % 2147483648L;
    }

    private static void draws() {
        sentence("ahead of each (as part of it) a DRAW of the POOLS, a DRAW of 20: so much RAIN comes to VOLUME of that;");
        for (int seed : new int[] {0, 1, 2, 77, 123456789, MAX - 1, MAX}) {
            CanalKeeper k = told(DRY + pool("a", 0, 0, 9999, 9999, 0, 0, 0, 1, 0)
                + pool("b", 0, 0, 9999, 9999, 0, 0, 0, 1, 0) + pool("c", 0, 0, 9999, 9999, 0, 0, 0, 1, 0));
            k.seed(seed);
            long x = seed;
            int[] rained = new int[3];
            for (int n = 1; n <= 30; n++) {
                x = next(x);
                int pool = (int) (x / 64 % 3);
                x = next(x);
                rained[pool] += (int) (x / 64 % 20);
                k.chance(1);
                row("VOLUME by " + seed + " behind " + n, i -> k.pool(i, 0), rained);
                due("the seed by " + seed + " behind " + n, k.has(9), x);
            }
        }
        // The first rain by 1 is 19: it is there for its STEP's LEAK and OUTLETS.
        CanalKeeper k = told(DRY + pool("a", 0, 0, 99, 99, 0, 4, 0, 1, 0) + "outlet x at a takes 9;order x from 0 for 1;");
        k.chance(1);
        due("rained, leaked, taken", k.pool(0, 0), 6);
        due("LEAKED", k.account(2), 4);
        due("SHORT", k.account(6), 0);
        due("VOLUME ahead of it", k.flow(0, 1, 2), 0);
        sentence("A DRAW of m: x (the seed) becomes (1103515245 x + 12345) mod 2 to the 31;");
        k.seed(0);
        k.chance(1);
        due("from 0: 12345, and once more", k.has(9), next(12345));
        k.seed(MAX);
        k.chance(1);
        due("from the highest", k.has(9), next(next(2147483647L)));
        sentence("floor(x / 64) mod m.");
        // 1103527590 / 64 is 17242618; 377401575 / 64 is 5896899.
        CanalKeeper eight = told(DRY + times(8, pool("#", 0, 0, 99, 99, 0, 0, 0, 1, 0)));
        eight.chance(1);
        row("17242618 mod 8, 5896899 mod 20", i -> eight.pool(i, 0), 0, 0, 19, 0, 0, 0, 0, 0);
    }

    private static void ahead() {
        sentence("AHEAD are STEPS as they go from now on (without RAIN).");
        String text = "canal gives 9;" + pool("a", 10, 20, 30, 40, 2, 1, 9, 2, 3) + pool("b", 5, 0, 3, 4, 1, 2, 9, 1, 1)
            + "outlet x at a takes 5;outlet y at b takes 2;order x from 1 for 30;turns 2 y,x;";
        CanalKeeper k = told(text);
        CanalKeeper goes = told(text);
        k.seed(99);
        k.chance(3);
        goes.seed(99);
        goes.chance(3);
        String state = state(k);
        for (int n = 0; n <= 30; n++) {
            due("later(0, " + n + ")", k.later(0, n), goes.pool(0, 0));
            due("later(1, " + n + ")", k.later(1, n), goes.pool(1, 0));
            due("opening(1, " + n + ")", k.opening(1, n), goes.gate(1, 0));
            goes.steps(1);
        }
        due("asking changes nothing", state(k).equals(state), true);
        k.seed(5);
        due("the seed makes no matter", k.later(0, 31), goes.pool(0, 0));
    }

    private static void events() {
        sentence("EVENTS are each beginning (from its first STEP on) and end (the STEP behind its last one) of an ORDER at "
            + "a STEP now or later:");
        CanalKeeper k = told(STILL + "order x from 2 for 3;");
        int[] counts = {2, 2, 2, 1, 1, 1, 0};
        for (int t = 0; t < counts.length; t++) {
            due("EVENTS at " + t, k.event(-1, 0), counts[t]);
            due("the last one's STEP at " + t, k.event(counts[t] - 1, 0), counts[t] > 0 ? 5 : 0);
            k.steps(1);
        }
        CanalKeeper one = told(STILL + "order x from 0 for 1;");
        row("STEPS of an ORDER for 1", i -> one.event(i, 0), 0, 1, -1);
        row("which begins", i -> one.event(i, 3), 1, 0, -1);
        sentence("by STEPS, then OUTLETS, ends ahead of beginnings, then ORDERS.");
        CanalKeeper all = told(STILL + "order y from 1 for 4;order x from 5 for 2;order x from 3 for 2;"
            + "order y from 5 for 1;order x from 5 for 2;order x from 4 for 1;");
        row("STEPS", i -> all.event(i, 0), 1, 3, 4, 5, 5, 5, 5, 5, 5, 6, 7, 7, -1);
        row("OUTLETS", i -> all.event(i, 1), 1, 0, 0, 0, 0, 0, 0, 1, 1, 1, 0, 0, -1);
        row("ORDERS", i -> all.event(i, 2), 0, 2, 5, 2, 5, 1, 4, 0, 3, 3, 1, 4, -1);
        row("begins", i -> all.event(i, 3), 1, 1, 1, 0, 0, 1, 1, 0, 1, 0, 0, 0, -1);
    }

    private static void ranks() {
        sentence("POOLS are ranked by how far VOLUME is from MIDDLE, the farthest first, of like ones by numbers.");
        CanalKeeper k = told(DRY + pool("a", 7, 0, 20, 90, 0, 0, 0, 1, 0) + pool("b", 18, 0, 21, 90, 0, 0, 0, 1, 0)
            + pool("c", 13, 0, 20, 90, 0, 0, 0, 1, 0) + pool("d", 2, 0, 20, 90, 0, 0, 0, 1, 0)
            + pool("e", 10, 0, 20, 90, 0, 0, 0, 1, 0) + pool("f", 19, 0, 20, 90, 0, 0, 0, 1, 0));
        row("far by 3, 8, 3, 8, 0, 9", k::rank, 5, 1, 3, 0, 2, 4, -1);
    }

    private static void seen() {
        sentence("SEEN are rows of a number of STEPS AHEAD and a VOLUME of a POOL:");
        CanalKeeper k = told(DRY + pool("a", 100, 0, 999, 999, 0, 60, 0, 1, 0) + pool("b", 400, 0, 999, 999, 0, 0, 0, 1, 0));
        due("rows", see(k, 0, 1, 93, 2, 86), 2);
        due("both are so by 7", k.leaks(0), 7);
        due("of the other POOL", see(k, 1, 3, 376), 1);
        due("it is so by 8", k.leaks(0), 8);
        sentence("FITS are those LEAKS 0 .. 40 of it by which, AHEAD from now on, all is so.");
        int[] volumes = {101, 100, 99, 61, 60, 59};
        int[] fits = {-1, 0, 1, 39, 40, -1};
        for (int i = 0; i < volumes.length; i++) {
            see(k, 0, 1, volumes[i]);
            due("the LEAK by " + volumes[i], k.leaks(0), fits[i]);
            due("how many by " + volumes[i], k.leaks(-1), fits[i] < 0 ? 0 : 1);
        }
        see(k, 0, 1, 95, 2, 91);
        due("one row is so, another is not", k.leaks(-1), 0);
        see(k, 0, 40, 0);
        due("behind 40 STEPS empty by 3 on", k.leaks(0), 3);
        due("up to 40", k.leaks(37), 40);
        due("how many", k.leaks(-1), 38);
        see(k, 0, 1, 35);
        due("ahead of a STEP", k.leaks(-1), 0);
        k.steps(1);
        due("from now on: 40 less 5", k.leaks(0), 5);
        due("its own LEAK stays", k.pool(0, 5), 60);
    }

    private static void telling() {
        sentence("TELLING is the number of STEPS AHEAD (1 .. 40) by whose VOLUME of it the most FITS left are fewest;");
        // Water arrives in the last POOL in the 40th STEP, then in the 41st: by 20 and more nothing is left of it.
        for (int delay = 3; delay <= 4; delay++) {
            StringBuilder text = new StringBuilder("canal gives 20;");
            for (char name = 'a'; name <= 'e'; name++) {
                text.append(pool("" + name, 0, 0, 90, 90, name == 'e' ? delay : 9, 0, 20, 20, 20));
            }
            CanalKeeper k = told(text.toString());
            for (int gate = 0; gate < 5; gate++) {
                k.hand(gate, 20);
            }
            see(k, 4, 1, 0);
            due("FITS", k.leaks(-1), 41);
            due("TELLING", k.tells(0), delay == 3 ? 40 : 1);
            due("left at the most", k.tells(1), delay == 3 ? 21 : 41);
        }
        // Behind 1 STEP 9 to 40 are alike, behind 2 STEPS 5 to 40.
        CanalKeeper k = told(DRY + pool("a", 9, 0, 90, 90, 0, 0, 0, 1, 0));
        see(k, 0, 40, 0);
        due("FITS", k.leaks(-1), 40);
        due("TELLING", k.tells(0), 1);
        due("left at the most", k.tells(1), 32);
        sentence("of like ones the first.");
        k = told(DRY + pool("a", 9999, 0, 9999, 9999, 0, 0, 0, 1, 0));
        see(k, 0, 1, 9998);
        due("one FIT is told by any", k.tells(0), 1);
        k = told("canal gives 40;" + pool("a", 0, 0, 99, 99, 2, 0, 40, 40, 40));
        k.hand(0, 40);
        see(k, 0, 2, 0);
        due("all FIT", k.leaks(-1), 41);
        due("the 3rd STEP tells all", k.tells(0), 3);
        due("left at the most", k.tells(1), 1);
    }
}
