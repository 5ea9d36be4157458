import java.util.Random;

/** Promises 2 to 5: the tape, texts with their FAULTS. A '^' stands where the FAULT is due, and is taken out. */
public final class FaultTest extends Check {
    private static final String HEAD = "canal gives 5;";
    private static final String POOL = "pool a holds 1 low 0 high 5 crest 9 delay 0 leak 0 gate 5 by 1 open 0;";
    private static final String OUTLETS = "outlet x at a takes 1;outlet y at a takes 2;";
    private static final String ALL = HEAD + POOL + OUTLETS;

    private FaultTest() {
    }

    public static void main(String[] args) {
        tapes();
        wholeTexts();
        textsThatGoWrong();
        numbersThatCannotBe();
        namesThatCannotBe();
        tooMany();
        whatStays();
        manySpoiltTexts();
        finish();
    }

    private static void tapes() {
        CanalKeeper k = new CanalKeeper();
        for (int i = 1; i <= 80; i++) {
            due("feed " + i, k.feed(0, 0, 0, 0, 0), 20 * i);
        }
        due("feed beyond 1600", k.feed(0, 0, 0, 0, 0), -1);
        due("status(0)", k.status(0), 1);
        due("end(1600)", k.end(1600), true);
        due("end(1601)", k.end(1601), false);
        due("end(-1)", k.end(-1), false);
        due("end(MIN)", k.end(Integer.MIN_VALUE), false);
        due("end(1581)", k.end(1581), true);
        due("feed beyond 1600 from 1581", k.feed(0, 0, 0, 0, 0), -1);
        due("end(1580)", k.end(1580), true);
        due("feed to 1600", k.feed(0, 0, 0, 0, 0), 1600);
        due("end(0)", k.end(0), true);
        due("end(1)", k.end(1), false);
        due("status(0)", k.status(0), 6);
        // Bytes above 127 are bytes like others, the highest of each number first.
        k = told(ALL);
        due("feed", k.feed(0x0180ff00, 0, 0, 0, 0), 20);
        due("end(3)", k.end(3), true);
        due("see(0)", k.see(0), 1);
    }

    private static void wholeTexts() {
        whole("canal gives 0;", 1);
        whole(" \n canal\ngives 0999 ; \n", 1);
        whole("canal gives 999;keep 1;keep 99;", 3);
        whole(HEAD + "pool canals holds 9999 low 9999 high 9999 crest 9999 delay 9 leak 99 gate 999 by 999 open 999;", 2);
        whole(HEAD + "pool z holds 0 low 0 high 0 crest 0 delay 0 leak 0 gate 0 by 1 open 0;", 2);
        whole(ALL + "order x from 0 for 1;order y from 999 for 99;", 6);
        whole(ALL + "turns 1 x,y;turns 30 y , x;", 6);
        whole(ALL + "outlet v at a takes 9;outlet w at a takes 9;outlet p at a takes 9;outlet q at a takes 99;"
            + "turns 3 x,y,v,w,p,q;", 9);
        CanalKeeper k = told("canal gives 7;keep 5;keep 9;");
        due("the last keep counts", k.has(5), 9);
        due("gives", k.has(4), 7);
    }

    private static void textsThatGoWrong() {
        wrong(1, "^");
        wrong(1, "  \n ^");
        wrong(1, "^;");
        wrong(1, " ^keep 3;");
        wrong(1, "^canals gives 5;");
        wrong(1, "^can");
        wrong(1, "canal ^give");
        wrong(1, "canal ^givess 5;");
        wrong(1, "canalgives 5;".replace("canalg", "^canalg"));
        wrong(1, "canal gives^5;");
        wrong(1, "canal gives ^;");
        wrong(1, "canal gives ^x;");
        wrong(1, "canal gives ^-5;");
        wrong(1, "canal gives 5^");
        wrong(1, "canal gives 5  ^");
        wrong(1, "canal gives 5 ^5;");
        wrong(1, "canal gives 0000^0;");
        wrong(1, "canal gives 5^x;");
        wrong(1, "canal gives 5;^;");
        wrong(1, HEAD + "^canal gives 5;");
        wrong(1, HEAD + "^gives 5;");
        wrong(1, HEAD + "^pools a holds");
        wrong(1, HEAD + "^Pool");
        wrong(1, HEAD + "keep^1;");
        wrong(1, HEAD + "pool ^");
        wrong(1, HEAD + "pool ^5");
        wrong(1, HEAD + "pool ^A");
        wrong(1, HEAD + "pool ^open holds");
        wrong(1, HEAD + "pool ^pool");
        wrong(1, HEAD + "pool outlet^s");
        wrong(1, HEAD + "pool abcdef^ghi holds");
        wrong(1, HEAD + "pool a^5 holds 1");
        wrong(1, HEAD + "pool a ^low 1");
        wrong(1, HEAD + "pool a holds 1^low 1");
        wrong(1, HEAD + "pool a holds^1");
        wrong(1, HEAD + "pool a holds 1 low 1 high 1 crest 1 delay 1 leak 1 gate 1 by 1 open 1^");
        wrong(1, HEAD + "pool a holds 1 low 1 high 1 crest 1 delay 1 leak 1 gate 1 by 1 open 1 ^,");
        wrong(1, HEAD + POOL + "outlet x ^takes 1");
        wrong(1, HEAD + POOL + "outlet x at ^at");
        wrong(1, HEAD + POOL + "outlet x at a ^;");
        wrong(1, ALL + "order x ^for 1");
        wrong(1, ALL + "order x from 1^for 1;");
        wrong(1, ALL + "order x from 1 for 1 ^,");
        wrong(1, ALL + "turns ^x,y;");
        wrong(1, ALL + "turns 2^x,y;");
        wrong(1, ALL + "turns 2 x^;");
        wrong(1, ALL + "turns 2 x ^y;");
        wrong(1, ALL + "turns 2 x,^;");
        wrong(1, ALL + "turns 2 x,y^");
        wrong(1, ALL + "turns 2 x,y,^");
        wrong(1, ALL + "turns 2 x,^turns");
        wrong(1, HEAD + "^\t");
        wrong(1, HEAD + "^\u00e1");
        wrong(1, HEAD + "^\0");
    }

    private static void poolWith(int kind, String numbers) {
        String[] words = {"holds", "low", "high", "crest", "delay", "leak", "gate", "by", "open"};
        String[] n = numbers.split(" ");
        StringBuilder text = new StringBuilder(HEAD).append("pool a");
        for (int i = 0; i < n.length; i++) {
            text.append(' ').append(words[i]).append(' ').append(n[i]);
        }
        wrong(kind, text.toString());
    }

    private static void numbersThatCannotBe() {
        wrong(2, "canal gives ^1000");
        wrong(2, "canal gives ^9999x");
        wrong(2, HEAD + "keep ^0;");
        wrong(2, HEAD + "keep ^100;");
        poolWith(1, "9999^9");
        poolWith(1, "0 9999^9");
        poolWith(2, "0 5 ^4");
        poolWith(2, "0 5 9 ^8");
        poolWith(2, "0 5 9 9 ^10");
        poolWith(2, "0 5 9 9 9 ^100");
        poolWith(2, "0 5 9 9 9 99 ^1000");
        poolWith(2, "0 5 9 9 9 99 999 ^0");
        poolWith(2, "0 5 9 9 9 99 999 ^1000");
        poolWith(2, "0 5 9 9 9 99 10 999 ^11");
        wrong(2, HEAD + POOL + "outlet x at a takes ^0");
        wrong(2, HEAD + POOL + "outlet x at a takes ^100");
        wrong(2, ALL + "order x from ^1000");
        wrong(2, ALL + "order x from 999 for ^0");
        wrong(2, ALL + "order x from 999 for ^100");
        wrong(2, ALL + "turns ^0 x,y;");
        wrong(2, ALL + "turns ^31 x,y;");
    }

    private static void namesThatCannotBe() {
        wrong(3, HEAD + POOL + "pool ^a holds");
        wrong(3, ALL + "pool ^x");
        wrong(3, ALL + "outlet ^x at a");
        wrong(3, ALL + "outlet ^a at a");
        wrong(3, ALL + "outlet z at ^x");
        wrong(3, ALL + "outlet z at ^z");
        wrong(3, ALL + "outlet z at ^b takes");
        wrong(3, ALL + "order ^a from");
        wrong(3, ALL + "order ^z");
        wrong(3, HEAD + "order ^x from 1 for 1;" + POOL + "outlet x at a takes 1;");
        wrong(3, ALL + "turns 1 ^a,x;");
        wrong(3, ALL + "turns 1 x,^z;");
        wrong(3, ALL + "turns 1 x,y, ^x;");
        // The first along the text counts.
        wrong(2, HEAD + "keep ^0;" + POOL + POOL);
        wrong(3, HEAD + POOL + "pool ^a holds 99999");
    }

    private static void tooMany() {
        String manyPools = HEAD + times(8, POOL.replace("pool a", "pool #"));
        whole(manyPools, 9);
        wrong(5, manyPools + " ^pool");
        wrong(1, manyPools + " ^poo");
        wrong(5, manyPools + "^pool 5");
        String manyOutlets = HEAD + POOL + times(10, "outlet # at a takes 1;");
        whole(manyOutlets, 12);
        wrong(5, manyOutlets + "^outlet l at a takes 1;");
        String manyOrders = ALL + times(16, "order x from 1 for 1;");
        whole(manyOrders, 20);
        wrong(5, manyOrders + "^order x from 1 for 1;");
        String manyTurns = ALL + times(2, "turns 1 x,y;");
        whole(manyTurns, 6);
        wrong(5, manyTurns + "keep 3;^turns");
        String sevenNames = manyOutlets + "turns 2 b,c,d,e,f,g";
        whole(sevenNames + " ;", 13);
        wrong(5, sevenNames + ",^h;");
        wrong(5, sevenNames + ", \n ^b;");
        wrong(5, sevenNames + ",^;");
        wrong(5, sevenNames + ",^,");
        wrong(5, sevenNames + ", ^99999");
        wrong(5, sevenNames + ",^\u00ff");
        wrong(1, sevenNames + ",^");
        wrong(1, sevenNames + ", \n^");
        wrong(1, sevenNames + " ^h;");
    }

    private static void whatStays() {
        CanalKeeper k = told(ALL + "order x from 0 for 5;");
        due("fault(0)", k.fault(0), 0);
        k.seed(77);
        k.steps(3);
        k.hand(0, 2);
        see(k, 0, 1, 1);
        int volume = k.pool(0, 0);
        tape(k, "canal gives 999;keep 0;");
        due("canal() with a fault", k.canal(), -1);
        due("its fault", k.fault(0), 2);
        due("its place", k.fault(1), 21);
        due("gives stays", k.has(4), 5);
        due("STEP stays", k.has(3), 3);
        due("VOLUME stays", k.pool(0, 0), volume);
        due("SEEN stays", k.has(7), 1);
        due("ACTS stay", k.has(8), 2);
        due("by hand stays", k.gate(0, 4), 2);
        due("the tape went", k.feed(0, 0, 0, 0, 0), 20);
        k.end(0);
        tape(k, ALL);
        due("canal() anew", k.canal(), 4);
        due("no fault", k.fault(0), 0);
        due("no place", k.fault(1), -1);
        due("STEP", k.has(3), 0);
        due("VOLUME", k.pool(0, 0), 1);
        due("ORDERS", k.has(2), 0);
        due("KEPT", k.has(6), 0);
        due("SEEN", k.has(7), 0);
        due("ACTS", k.has(8), 0);
        due("by hand", k.gate(0, 4), -1);
        due("the seed stays", k.has(9), 77);
        due("undo()", k.undo(), false);
        due("flow", k.flow(0, 1, 0), -1);
        due("took", k.account(1), 0);
        due("the tape went", k.feed(0, 0, 0, 0, 0), 20);
    }

    private static void manySpoiltTexts() {
        for (int i = 0; i < 20000; i++) {
            String text = new Texts(new Random(i)).spoilt();
            CanalKeeper k = new CanalKeeper();
            Model m = new Model();
            tape(k, text);
            m.tape = text;
            due("canal() of " + text, k.canal(), m.canal());
            due("fault(0) of " + text, k.fault(0), m.fault(0));
            due("fault(1) of " + text, k.fault(1), m.fault(1));
        }
    }
}
