import java.util.ArrayList;
import java.util.List;
import java.util.Random;

/** Texts of canals by a seed: whole ones, and ones with something spoilt. */
final class Texts {
    static final String[] NAMES = {"a", "b", "c", "d", "e", "f", "g", "h", "aa", "ab", "zz", "abcdef", "abcdeg", "z",
        "outle", "cana", "po", "turn", "orders", "ats", "xy", "yx", "zzzzzz", "q", "w", "ee"};
    private static final String[] PIECES = {";", ",", " ", "\n", "canal", "gives", "keep", "pool", "holds", "low",
        "high", "crest", "delay", "leak", "gate", "by", "open", "outlet", "at", "takes", "order", "from", "for",
        "turns", "0", "1", "7", "99", "100", "999", "1000", "9999", "10000", "00000", "abcdefg", "outlets", "a", "b",
        "c", "z", "A", "-", ".", "\u00e9", "\t"};
    private final Random random;
    private final List<String> parts = new ArrayList<>();

    Texts(Random random) {
        this.random = random;
    }

    private int in(int lo, int hi) {
        return lo + random.nextInt(hi - lo + 1);
    }

    private void put(Object... words) {
        for (Object word : words) {
            parts.add(word.toString());
        }
    }

    private void build(int pools, int outlets, int orders, int turns) {
        int name = 0;
        int large = random.nextInt(6) == 0 ? 20 : 1;
        put("canal", "gives", in(0, 25 * large), ";");
        for (int i = in(0, 2); i > 0; i--) {
            put("keep", in(1, 12), ";");
        }
        int firstOutlet = pools;
        for (int i = 0; i < pools; i++) {
            int low = in(0, 30 * large);
            int high = low + in(0, 20 * large);
            int crest = high + in(0, 15 * large);
            int most = in(0, 25 * large);
            put("pool", NAMES[name++], "holds", in(0, 60 * large), "low", low, "high", high, "crest", crest, "delay",
                random.nextInt(3) == 0 ? in(0, 9) : in(0, 2), "leak", random.nextInt(2) * in(0, 5), "gate", most,
                "by", in(1, 1 + 6 * large), "open", in(0, most), ";");
        }
        for (int i = 0; i < outlets && pools > 0; i++) {
            put("outlet", NAMES[name++], "at", NAMES[in(0, pools - 1)], "takes", in(1, 10), ";");
        }
        if (pools == 0 || outlets == 0) {
            return;
        }
        for (int i = 0; i < orders; i++) {
            put("order", NAMES[firstOutlet + in(0, outlets - 1)], "from", in(0, 40), "for", in(1, 15), ";");
        }
        for (int i = 0; i < turns && outlets >= 2; i++) {
            int many = in(2, Math.min(outlets, 6));
            int first = in(0, outlets - many);
            put("turns", in(1, 6));
            for (int k = 0; k < many; k++) {
                put(NAMES[firstOutlet + first + k], k + 1 < many ? "," : ";");
            }
        }
    }

    private String joined(boolean alwaysBlanks) {
        StringBuilder text = new StringBuilder();
        String last = ";";
        for (String part : parts) {
            boolean needs = isPlain(last) && isPlain(part) && (alwaysBlanks || random.nextInt(60) != 0);
            if (needs || random.nextInt(8) == 0) {
                text.append(random.nextInt(9) == 0 ? "\n" : random.nextInt(9) == 0 ? "  " : " ");
            }
            text.append(part);
            last = part;
        }
        if (random.nextInt(5) == 0) {
            text.append(" \n");
        }
        return text.toString();
    }

    private static boolean isPlain(String part) {
        return Character.isLetterOrDigit(part.charAt(0));
    }

    String whole() {
        switch (random.nextInt(5)) {
            case 0 -> build(1, in(0, 2), in(0, 3), 0);
            case 1 -> build(in(0, 8), in(0, 10), in(0, 10), in(0, 2));
            default -> build(in(1, 4), in(1, 5), in(0, 8), in(0, 2));
        }
        String text = joined(true);
        return text.length() <= 1600 ? text : new Texts(random).whole();
    }

    String spoilt() {
        if (random.nextInt(8) == 0) {
            build(random.nextInt(3) == 0 ? 9 : 2, random.nextInt(2) == 0 ? 11 : 8, in(15, 17), in(0, 3));
        } else {
            build(in(0, 2), in(0, 7), in(0, 3), in(0, 2));
        }
        for (int i = random.nextInt(3); i > 0; i--) {
            int at = random.nextInt(parts.size());
            switch (random.nextInt(4)) {
                case 0 -> parts.remove(at);
                case 1 -> parts.add(at, PIECES[random.nextInt(PIECES.length)]);
                case 2 -> parts.add(at, parts.get(random.nextInt(parts.size())));
                default -> parts.set(at, PIECES[random.nextInt(PIECES.length)]);
            }
        }
        String text = joined(random.nextBoolean());
        if (random.nextInt(3) == 0) {
            text = text.substring(0, random.nextInt(text.length() + 1));
        }
        return text.length() <= 1600 ? text : text.substring(0, 1600);
    }
}
