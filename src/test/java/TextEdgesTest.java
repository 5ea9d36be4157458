/** Terms I, sentence by sentence: the edges of what a text may say, and the place of each FAULT. */
public final class TextEdgesTest extends Check {
    private static final String HEAD = "canal gives 5;";
    private static final String POOL = "pool a holds 1 low 0 high 5 crest 9 delay 0 leak 0 gate 5 by 1 open 0;";
    private static final String OUTLETS = "outlet x at a takes 1;outlet y at a takes 2;";
    private static final String ALL = HEAD + POOL + OUTLETS;
    private static final String TEN = HEAD + POOL + times(10, "outlet # at a takes 1;");
    private static final String[] OWN_WORDS = {"canal", "gives", "keep", "pool", "holds", "low", "high", "crest", "delay",
        "leak", "gate", "by", "open", "outlet", "at", "takes", "order", "from", "for", "turns"};
    private static final String[] POOL_WORDS = {"holds", "low", "high", "crest", "delay", "leak", "gate", "by", "open"};

    private TextEdgesTest() {
    }

    public static void main(String[] args) {
        part("Terms I", "A CANAL is a text", "II. POOLS");
        statementsOneBehindTheOther();
        whatTheCanalGives();
        whatIsKept();
        numbersOfAPool();
        outlets();
        orders();
        turns();
        namesAheadOfTheirUse();
        namesAndNumbers();
        blanks();
        firstFaultAlongTheText();
        faultsOfTheText();
        textsThatEndTooSoon();
        faultsOfNumbers();
        faultsOfNames();
        oneTooMany();
        finish();
    }

    private static void statementsOneBehindTheOther() {
        sentence("A CANAL is a text: { STATEMENT ; }:");
        whole("canal gives 5;", 1);
        whole("canal gives 5;keep 1;keep 2;", 3);
        wrong(1, "canal gives 5^");
        wrong(1, "canal gives 5;keep 1^");
        wrong(1, "canal gives 5 ^keep 1;");
        wrong(1, "canal gives 5;^;");
        wrong(1, "^;canal gives 5;");
        wrong(1, "canal gives 5^,");
    }

    private static void whatTheCanalGives() {
        sentence("canal gives N (0 .. 999;");
        due("has(4) of the least", told("canal gives 0;").has(4), 0);
        due("has(4) of the most", told("canal gives 999;").has(4), 999);
        wrong(2, "canal gives ^1000;");
        wrong(2, "canal gives ^9999;");
        sentence("the first STATEMENT, and it alone);");
        wrong(1, "^keep 3;canal gives 5;");
        wrong(1, "^" + POOL + HEAD);
        wrong(1, HEAD + "^canal gives 5;");
        wrong(1, ALL + "^canal gives 6;");
    }

    private static void whatIsKept() {
        sentence("keep N (1 .. 99;");
        due("GAIN, the least", told(HEAD + "keep 1;").has(5), 1);
        due("GAIN, the most", told(HEAD + "keep 99;").has(5), 99);
        wrong(2, HEAD + "keep ^0;");
        wrong(2, HEAD + "keep ^100;");
        sentence("GAIN, 4 without;");
        due("GAIN without keep", told(HEAD).has(5), 4);
        sentence("the last one counts);");
        due("GAIN of three", told(HEAD + "keep 9;keep 99;" + POOL + "keep 7;").has(5), 7);
        due("GAIN of one at the end", told(ALL + "keep 3;").has(5), 3);
    }

    /** The numbers of a POOL with one of them another; the others leave room for it. */
    private static String poolText(int which, String number, int... n) {
        StringBuilder text = new StringBuilder(HEAD).append("pool a");
        for (int i = 0; i < n.length; i++) {
            text.append(' ').append(POOL_WORDS[i]).append(' ').append(i == which ? number : "" + n[i]);
        }
        return text.append(';').toString();
    }

    private static void poolNumber(int which, int least, int most, int... n) {
        for (int v : new int[] {least, most}) {
            CanalKeeper k = told(poolText(which, "" + v, n));
            int got = which < 6 ? k.pool(0, which) : k.gate(0, which == 8 ? 0 : which - 5);
            due(POOL_WORDS[which] + " " + v, got, v);
        }
        if (least > 0) {
            wrong(2, poolText(which, "^" + (least - 1), n));
        }
        if (most < 9999) {
            wrong(2, poolText(which, "^" + (most + 1), n));
        } else {
            wrong(1, poolText(which, "1000^0", n));
        }
    }

    private static void numbersOfAPool() {
        sentence("pool NAME holds N low N high N crest N delay N leak N gate N by N open N");
        due("nine numbers", told(poolText(-1, "", 50, 20, 60, 80, 3, 5, 40, 7, 30)).has(0), 1);
        for (int i = 0; i < POOL_WORDS.length; i++) {
            String text = poolText(-1, "", 50, 20, 60, 80, 3, 5, 40, 7, 30);
            wrong(1, text.replace(" " + POOL_WORDS[i] + " ", " ^"));
            wrong(1, text.replace(" " + POOL_WORDS[i] + " ", " ^" + POOL_WORDS[(i + 1) % 9] + " "));
        }
        sentence("(0 .. 9999;");
        poolNumber(0, 0, 9999, 50, 20, 60, 80, 3, 5, 40, 7, 30);
        sentence("0 .. 9999;");
        poolNumber(1, 0, 9999, 50, 20, 9999, 9999, 3, 5, 40, 7, 30);
        sentence("that up to 9999;");
        poolNumber(2, 20, 9999, 50, 20, 60, 9999, 3, 5, 40, 7, 30);
        poolNumber(2, 9999, 9999, 50, 9999, 60, 9999, 3, 5, 40, 7, 30);
        sentence("that up to 9999;");
        poolNumber(3, 60, 9999, 50, 20, 60, 80, 3, 5, 40, 7, 30);
        sentence("0 .. 9;");
        poolNumber(4, 0, 9, 50, 20, 60, 80, 3, 5, 40, 7, 30);
        sentence("0 .. 99;");
        poolNumber(5, 0, 99, 50, 20, 60, 80, 3, 5, 40, 7, 30);
        sentence("0 .. 999;");
        poolNumber(6, 0, 999, 50, 20, 60, 80, 3, 5, 40, 7, 0);
        sentence("1 .. 999;");
        poolNumber(7, 1, 999, 50, 20, 60, 80, 3, 5, 40, 7, 30);
        sentence("0 up to that of gate;");
        poolNumber(8, 0, 40, 50, 20, 60, 80, 3, 5, 40, 7, 30);
        poolNumber(8, 0, 0, 50, 20, 60, 80, 3, 5, 0, 7, 30);
        poolNumber(8, 0, 999, 50, 20, 60, 80, 3, 5, 999, 7, 30);
        sentence("8 POOLS, from the head on);");
        CanalKeeper k = told(HEAD + times(8, POOL.replace("pool a", "pool #")));
        due("eight", k.has(0), 8);
        due("the first's name", k.letter(0, 0, 0), 2);
        due("the last's name", k.letter(0, 7, 0), 9);
        k = told("canal gives 9;" + pool("a", 0, 0, 99, 99, 0, 0, 9, 9, 9) + pool("b", 0, 0, 99, 99, 0, 0, 9, 9, 0));
        k.steps(1);
        due("the first told is at the head", k.pool(0, 0), 9);
    }

    private static void outlets() {
        sentence("outlet NAME at NAME takes N (a POOL;");
        due("its POOL", told(HEAD + POOL + POOL.replace("pool a", "pool b") + "outlet x at b takes 1;").outlet(0, 0), 1);
        wrong(3, ALL + "outlet z at ^y takes 1;");
        wrong(3, ALL + "outlet z at ^z takes 1;");
        wrong(3, HEAD + "outlet z at ^a takes 1;");
        sentence("1 .. 99;");
        due("the least", told(HEAD + POOL + "outlet x at a takes 1;").outlet(0, 1), 1);
        due("the most", told(HEAD + POOL + "outlet x at a takes 99;").outlet(0, 1), 99);
        wrong(2, HEAD + POOL + "outlet x at a takes ^0;");
        wrong(2, HEAD + POOL + "outlet x at a takes ^100;");
        sentence("10 OUTLETS);");
        due("ten", told(TEN).has(1), 10);
        due("the last's name", told(TEN).letter(1, 9, 0), 11);
    }

    private static void orders() {
        sentence("order NAME from N for N (an OUTLET;");
        due("its OUTLET", told(ALL + "order y from 1 for 1;").order(0, 0), 1);
        wrong(3, ALL + "order ^a from 1 for 1;");
        wrong(3, ALL + "order ^z from 1 for 1;");
        sentence("0 .. 999;");
        due("the least", told(ALL + "order x from 0 for 1;").order(0, 1), 0);
        due("the most", told(ALL + "order x from 999 for 1;").order(0, 1), 999);
        wrong(2, ALL + "order x from ^1000 for 1;");
        sentence("1 .. 99;");
        due("the least", told(ALL + "order x from 0 for 1;").order(0, 2), 1);
        due("the most", told(ALL + "order x from 0 for 99;").order(0, 2), 99);
        wrong(2, ALL + "order x from 0 for ^0;");
        wrong(2, ALL + "order x from 0 for ^100;");
        sentence("16 ORDERS);");
        CanalKeeper k = told(ALL + times(15, "order x from 1 for 1;") + "order y from 7 for 3;");
        due("sixteen", k.has(2), 16);
        due("the last one's OUTLET", k.order(15, 0), 1);
    }

    private static void turns() {
        sentence("turns N NAME { , NAME } (1 .. 30;");
        CanalKeeper k = told(ALL + "turns 1 x,y;");
        row("x by ones", t -> k.opens(0, t), 1, 0, 1, 0);
        CanalKeeper thirty = told(ALL + "turns 30 x,y;");
        due("x at 29", thirty.opens(0, 29), 1);
        due("x at 30", thirty.opens(0, 30), 0);
        wrong(2, ALL + "turns ^0 x,y;");
        wrong(2, ALL + "turns ^31 x,y;");
        sentence("2 to 6 OUTLETS,");
        wrong(1, ALL + "turns 2 ^;");
        wrong(1, ALL + "turns 2 x^;");
        whole(ALL + "turns 2 x,y;", 5);
        whole(TEN + "turns 2 b,c,d,e,f;", 13);
        whole(TEN + "turns 2 b,c,d,e,f,g;", 13);
        wrong(5, TEN + "turns 2 b,c,d,e,f,g,^h;");
        sentence("unlike;");
        wrong(3, ALL + "turns 2 x,^x;");
        wrong(3, TEN + "turns 2 b,c,d,e,f,^b;");
        wrong(3, TEN + "turns 2 b,c,d,e,f,^f;");
        sentence("2 of them).");
        whole(ALL + "turns 2 x,y;turns 2 x,y;", 6);
        wrong(5, ALL + "turns 2 x,y;turns 2 x,y;^turns 2 x,y;");
    }

    private static void namesAheadOfTheirUse() {
        sentence("NAMES are told ahead of where they are asked.");
        wrong(3, HEAD + "outlet x at ^a takes 1;" + POOL);
        wrong(3, HEAD + POOL + "order ^x from 1 for 1;" + OUTLETS);
        wrong(3, HEAD + POOL + "turns 1 ^x,y;" + OUTLETS);
        wrong(3, HEAD + POOL + "outlet x at a takes 1;turns 1 x,^y;outlet y at a takes 1;");
        whole(ALL + "order x from 1 for 1;" + POOL.replace("pool a", "pool b") + "outlet z at b takes 1;"
            + "turns 1 z,x;", 8);
    }

    private static void namesAndNumbers() {
        sentence("NAMES: 1 to 6 letters,");
        whole(HEAD + POOL.replace("pool a", "pool z"), 2);
        whole(HEAD + POOL.replace("pool a", "pool azazaz"), 2);
        wrong(1, HEAD + "pool ^;");
        wrong(1, HEAD + "pool azazaz^a holds");
        wrong(1, HEAD + "pool ^A holds");
        wrong(1, HEAD + "pool ^Z holds");
        wrong(1, HEAD + "pool ^` holds");
        wrong(1, HEAD + "pool ^{ holds");
        wrong(1, HEAD + "pool ^\u00e1 holds");
        wrong(1, HEAD + "pool a^A holds");
        sentence("all unlike,");
        wrong(3, HEAD + POOL + "pool ^a holds");
        wrong(3, HEAD + POOL + "outlet ^a at a takes 1;");
        wrong(3, ALL + "pool ^x holds");
        wrong(3, ALL + "outlet ^x at a takes 1;");
        whole(HEAD + POOL.replace("pool a", "pool abcdef") + POOL.replace("pool a", "pool abcdeg")
            + POOL.replace("pool a", "pool abcde") + POOL.replace("pool a", "pool a"), 5);
        sentence("no OWN WORD: canal, gives, keep, pool, holds, low, high, crest, delay, leak, gate, by, open, outlet, "
            + "at, takes, order, from, for, turns.");
        for (String word : OWN_WORDS) {
            wrong(1, HEAD + "pool ^" + word + " holds 1");
            wrong(1, ALL + "outlet ^" + word + " at a takes 1;");
            wrong(1, ALL + "outlet z at ^" + word + " takes 1;");
            wrong(1, ALL + "order ^" + word + " from 1 for 1;");
            wrong(1, ALL + "turns 1 ^" + word + ",x;");
            wrong(1, ALL + "turns 1 x,^" + word + ";");
            String shorter = word.substring(0, word.length() - 1);
            whole(HEAD + POOL.replace("pool a", "pool " + shorter), 2);
            if (word.length() < 6) {
                whole(HEAD + POOL.replace("pool a", "pool " + word + "s"), 2);
            }
        }
        sentence("N: 1 to 4 digits.");
        wrong(1, "canal gives ^;");
        due("one digit", told("canal gives 7;").has(4), 7);
        due("four digits", told("canal gives 0070;").has(4), 70);
        wrong(1, "canal gives 0007^0;");
        wrong(1, "canal gives ^+7;");
        wrong(1, "canal gives ^-7;");
        wrong(1, "canal gives 7^.0;");
        wrong(1, "canal gives ^/;");
        wrong(1, "canal gives ^:;");
    }

    private static void blanks() {
        sentence("Blanks (10, 32) are where one likes");
        whole("canal gives 5;", 1);
        whole(" \n canal \n gives \n 5 \n ; \n ", 1);
        whole(ALL + "turns \n 2 \n x \n , \n y \n ; \n keep\n3\n;", 6);
        for (int sign = 0; sign < 256; sign++) {
            if (sign != 10 && sign != 32) {
                if ((sign < '0' || sign > '9') && sign != '^') {
                    wrong(1, HEAD + "keep ^" + (char) sign + " 3;");
                }
                if (sign != '^') {
                    wrong(1, HEAD + "^" + (char) sign + "keep 3;");
                }
            }
        }
        sentence("(words and numbers side by side need one).");
        wrong(1, "canal gives^5;");
        wrong(1, HEAD + "keep^3;");
        wrong(1, "^canalgives 5;");
        wrong(1, HEAD + "^poola holds 1");
        wrong(1, HEAD + "pool a^5 holds 1");
        wrong(1, HEAD + "pool a holds^1 low 1");
        wrong(1, HEAD + "pool a holds 1^low 1");
        wrong(1, ALL + "turns^2 x,y;");
        wrong(1, ALL + "turns 2^x,y;");
        wrong(1, ALL + "order x from 1^for 1;");
        whole("canal\ngives\n5;", 1);
    }

    private static void firstFaultAlongTheText() {
        sentence("FAULTS, the first along the text:");
        wrong(2, "canal gives ^1000 x;keep 0;");
        wrong(1, "canal gives 5^x;keep 0;");
        wrong(3, HEAD + POOL + "pool ^a holds 1 low 2 high 1");
        wrong(2, HEAD + "pool a holds 1 low 2 high ^1 crest 0;" + POOL);
        wrong(5, HEAD + times(8, POOL.replace("pool a", "pool #")) + "^pool b holds 1 low 2 high 1");
        wrong(3, TEN + "turns 2 b,c,^b,e,f,g,h;");
        wrong(2, ALL + "turns ^31 x,x;");
        wrong(2, "canal gives ^1000x;");
        wrong(3, ALL + "order ^z5 from 1 for 1;");
    }

    private static void faultsOfTheText() {
        sentence("1 the first byte with which no such text goes on");
        wrong(1, "^.");
        wrong(1, "canal gives 5;^.");
        wrong(1, "canal gives 5^.");
        wrong(1, "canal ^.gives 5;");
        wrong(1, "canal^.gives 5;");
        wrong(1, ALL + "turns 2 x,y^.");
        wrong(1, ALL + "turns 2 x^.y;");
        sentence("(words and numbers whole, at their first byte;");
        wrong(1, "^canall gives 5;");
        wrong(1, "^cana gives 5;");
        wrong(1, "canal ^giver 5;");
        wrong(1, "canal gives ^five;");
        wrong(1, "canal ^12345;");
        wrong(1, "canal gives 5 ^67890;");
        wrong(1, HEAD + "^abcdefghij 5;");
        wrong(1, HEAD + "^pools a holds 1");
        wrong(1, HEAD + "pool ^12 holds 1");
        wrong(1, HEAD + "pool a ^hold 1");
        wrong(1, HEAD + "keep 5 ^keep 5;");
        everyLetterCounts();
        sentence("where a NAME is asked, an OWN WORD so,");
        wrong(1, HEAD + "pool ^low holds 1");
        wrong(1, ALL + "outlet z at ^turns takes 1;");
        wrong(1, ALL + "order ^by from 1 for 1;");
        wrong(1, ALL + "turns 1 x,^outlet;");
        sentence("a 7th letter at itself;");
        wrong(1, HEAD + "pool abcdef^g");
        wrong(1, HEAD + "pool outlet^s holds 1");
        wrong(1, HEAD + "pool abcdef^ghijkl holds 1");
        wrong(1, ALL + "outlet z at aaaaaa^a takes 1;");
        wrong(1, ALL + "order xxxxxx^x from 1 for 1;");
        wrong(1, ALL + "turns 1 x,yyyyyy^y;");
        sentence("where a number is asked, a 5th digit at itself;");
        wrong(1, "canal gives 0000^5;");
        wrong(1, "canal gives 9999^9;");
        wrong(1, HEAD + "keep 0000^0;");
        wrong(1, HEAD + "pool a holds 1 low 0000^00");
        wrong(1, ALL + "order x from 1 for 0000^1;");
        wrong(1, ALL + "turns 0000^1 x,y;");
    }

    /** NAMES have one letter here, so that whatever has more is a word of the text. */
    private static void everyLetterCounts() {
        String text = HEAD + "keep 3;" + POOL + OUTLETS + "order x from 1 for 2;turns 2 x,y;";
        for (int i = 0; i < text.length(); i++) {
            String start = text.substring(0, i).replaceAll("[a-z]+$", "");
            String word = text.substring(start.length()).replaceAll("(?s)[^a-z].*", "");
            if (Character.isLetter(text.charAt(i)) && word.length() > 1) {
                wrong(1, start + "^" + text.substring(start.length(), i) + "z" + text.substring(i + 1));
            }
        }
    }

    /** Each beginning of a text whose NAMES and numbers have one byte: a word is whole only with its last letter. */
    private static void textsThatEndTooSoon() {
        sentence("at the text's length, if it ends too soon);");
        String text = HEAD + "keep 3;" + POOL + OUTLETS + "order x from 1 for 2;turns 2 x,y;";
        for (int length = 1; length < text.length(); length++) {
            String start = text.substring(0, length);
            String rest = text.substring(length);
            boolean isCut = Character.isLetter(start.charAt(length - 1)) && Character.isLetter(rest.charAt(0));
            if (isCut) {
                int word = start.replaceAll("[a-z]+$", "").length();
                wrong(1, start.substring(0, word) + "^" + start.substring(word));
            } else if (start.endsWith(";")) {
                whole(start, start.replaceAll("[^;]", "").length());
            } else {
                wrong(1, start + "^");
                wrong(1, start + " \n ^");
            }
        }
        wrong(1, "^");
        wrong(1, " ^");
        whole(text + " \n ", 7);
    }

    private static void faultsOfNumbers() {
        sentence("2 a number that can't be, at it;");
        wrong(2, "canal gives  ^1000");
        wrong(2, "canal gives \n ^1000 ;");
        wrong(2, HEAD + "keep ^0000;");
        wrong(2, HEAD + "keep ^0100;");
        wrong(2, HEAD + "pool a holds 1 low 9 high ^8");
        wrong(2, HEAD + "pool a holds 1 low 9 high 9 crest ^0008");
    }

    private static void faultsOfNames() {
        sentence("3 a NAME to be given that is there already,");
        wrong(3, HEAD + POOL + "pool ^a");
        wrong(3, HEAD + POOL + "pool \n ^a holds");
        wrong(3, ALL + "pool ^y");
        wrong(3, ALL + "outlet ^y");
        wrong(3, ALL + "outlet ^a");
        sentence("one that is none of what is asked,");
        wrong(3, ALL + "outlet z at ^b");
        wrong(3, ALL + "outlet z at ^x");
        wrong(3, ALL + "order ^b");
        wrong(3, ALL + "order ^a");
        wrong(3, ALL + "turns 1 ^b");
        wrong(3, ALL + "turns 1 ^a");
        wrong(3, ALL + "turns 1 x, ^a");
        wrong(3, ALL + "order ^xx from 1 for 1;");
        sentence("an OUTLET that is in its turns already, at it;");
        wrong(3, ALL + "turns 1 x,^x");
        wrong(3, ALL + "turns 1 x,y , ^y;");
        whole(ALL + "turns 1 x,y;turns 1 y,x;", 6);
    }

    private static void oneTooMany() {
        String pools = HEAD + times(8, POOL.replace("pool a", "pool #"));
        sentence("5 one too many, at its first byte: a 9th pool,");
        whole(pools, 9);
        wrong(5, pools + "^pool");
        wrong(5, pools + "keep 3; \n ^pool z holds 1");
        wrong(1, pools + "^poo");
        wrong(1, pools + "^pools z");
        sentence("an 11th outlet,");
        whole(TEN, 12);
        wrong(5, TEN + "^outlet");
        wrong(5, TEN + " ^outlet 5");
        wrong(1, TEN + "^outlets");
        sentence("a 17th order,");
        String orders = ALL + times(16, "order x from 1 for 1;");
        whole(orders, 20);
        wrong(5, orders + "^order");
        wrong(5, orders + "\n^order z from 1 for 1;");
        wrong(1, orders + "^ordel");
        sentence("a 3rd turns (at that word),");
        String turns = ALL + times(2, "turns 1 x,y;");
        whole(turns, 6);
        wrong(5, turns + "^turns");
        wrong(5, turns + "keep 3; ^turns 99999");
        wrong(1, turns + "^turn");
        sentence("a 7th NAME of turns (whatever stands there, if anything does).");
        String names = TEN + "turns 2 b,c,d,e,f,g";
        whole(names + ";", 13);
        for (String there : new String[] {"h", "b", "zz", "pool", ";", ",", "5", "99999", "abcdefghi", "A", "\u00ff", "\0"}) {
            wrong(5, names + ",^" + there);
            wrong(5, names + " , \n ^" + there + ";");
        }
        wrong(1, names + ",^");
        wrong(1, names + ", \n ^");
        wrong(1, names + " ^h;");
        wrong(1, names + "^");
    }
}
