import java.util.ArrayList;
import java.util.Comparator;
import java.util.HashMap;
import java.util.List;
import java.util.Map;
import java.util.Set;

/**
 * The document once more, written without regard to speed and in another way than the class: the text cut into
 * tokens first, every STEP that went kept, each question asked of a whole copy. ModelTest compares the two.
 */
final class Model {
    static final int NONE = -1;
    static final int NOTHING = -1000000;
    private static final Set<String> OWN = Set.of("canal", "gives", "keep", "pool", "holds", "low", "high", "crest",
        "delay", "leak", "gate", "by", "open", "outlet", "at", "takes", "order", "from", "for", "turns");

    static final class Pool {
        String name;
        int volume, low, high, crest, delay, leak, most, by, opening;
        int hand = NONE;
        List<Integer> passed = new ArrayList<>();

        int middle() {
            return (low + high) / 2;
        }

        int band(int v) {
            return v < low ? 1 : v > high ? 2 : 0;
        }

        Pool copy() {
            Pool p = new Pool();
            p.name = name;
            p.volume = volume;
            p.low = low;
            p.high = high;
            p.crest = crest;
            p.delay = delay;
            p.leak = leak;
            p.most = most;
            p.by = by;
            p.opening = opening;
            p.hand = hand;
            p.passed = new ArrayList<>(passed);
            return p;
        }
    }

    static final class Outlet {
        String name;
        int pool, takes, took, lacked;

        Outlet copy() {
            Outlet o = new Outlet();
            o.name = name;
            o.pool = pool;
            o.takes = takes;
            o.took = took;
            o.lacked = lacked;
            return o;
        }
    }

    record Order(int outlet, int from, int many) { }

    record Turn(int every, List<Integer> outlets) { }

    record Alarm(int step, int pool, int cause) { }

    record Flow(int came, int went, int ahead, int passed) { }

    record Event(int step, int outlet, int order, int begins) { }

    record Seen(int steps, int volume) { }

    static final class State {
        int gives, gain = 4, step;
        List<Pool> pools = new ArrayList<>();
        List<Outlet> outlets = new ArrayList<>();
        List<Order> orders = new ArrayList<>();
        List<Turn> turns = new ArrayList<>();
        List<Alarm> alarms = new ArrayList<>();
        List<List<Flow>> flows = new ArrayList<>();
        int given, leaked, out, rained;

        State copy() {
            State s = new State();
            s.gives = gives;
            s.gain = gain;
            s.step = step;
            for (Pool p : pools) {
                s.pools.add(p.copy());
            }
            for (Outlet o : outlets) {
                s.outlets.add(o.copy());
            }
            s.orders.addAll(orders);
            s.turns.addAll(turns);
            s.alarms.addAll(alarms);
            s.flows.addAll(flows);
            s.given = given;
            s.leaked = leaked;
            s.out = out;
            s.rained = rained;
            return s;
        }

        boolean open(int outlet, int t) {
            for (Order o : orders) {
                for (int i = 0; i < o.many(); i++) {
                    if (o.outlet() == outlet && o.from() + i == t) {
                        return true;
                    }
                }
            }
            for (Turn n : turns) {
                if (n.outlets().get((t / n.every()) % n.outlets().size()) == outlet) {
                    return true;
                }
            }
            return false;
        }

        int load(int gate, int t) {
            int sum = 0;
            int delays = 0;
            for (int p = gate; p < pools.size(); p++) {
                delays += pools.get(p).delay;
                sum += pools.get(p).leak;
                for (int o = 0; o < outlets.size(); o++) {
                    if (outlets.get(o).pool == p && open(o, t + delays)) {
                        sum += outlets.get(o).takes;
                    }
                }
            }
            return sum;
        }

        int wish(int gate, int t) {
            Pool p = pools.get(gate);
            if (p.hand != NONE) {
                return p.hand;
            }
            int far = p.middle() - p.volume;
            int part = far < 0 ? -(-far / gain) : far / gain;
            return load(gate, t) + part;
        }

        int wanted(int gate, int t) {
            int w = wish(gate, t);
            return w < 0 ? 0 : w > pools.get(gate).most ? pools.get(gate).most : w;
        }

        int lackedInAll() {
            int sum = 0;
            for (Outlet o : outlets) {
                sum += o.lacked;
            }
            return sum;
        }

        int tookInAll() {
            int sum = 0;
            for (Outlet o : outlets) {
                sum += o.took;
            }
            return sum;
        }

        int row(int pool, int k) {
            Pool p = pools.get(pool);
            int passedAt = step + k - p.delay;
            return passedAt < 0 ? 0 : p.passed.get(passedAt);
        }

        int onWay(int pool) {
            int sum = 0;
            for (int k = 0; k < pools.get(pool).delay; k++) {
                sum += row(pool, k);
            }
            return sum;
        }

        int there() {
            int sum = 0;
            for (int i = 0; i < pools.size(); i++) {
                sum += pools.get(i).volume + onWay(i);
            }
            return sum;
        }

        void go(int rainPool, int rain) {
            int n = pools.size();
            int[] came = new int[n];
            int[] went = new int[n];
            int[] ahead = new int[n];
            int[] over = new int[n];
            boolean[] less = new boolean[n];
            for (int i = 0; i < n; i++) {
                ahead[i] = pools.get(i).volume;
            }
            if (rainPool != NONE) {
                pools.get(rainPool).volume += rain;
                came[rainPool] += rain;
                rained += rain;
            }
            for (int i = 0; i < n; i++) {
                Pool p = pools.get(i);
                if (p.delay > 0) {
                    int arrives = row(i, 0);
                    p.volume += arrives;
                    came[i] += arrives;
                }
            }
            for (Pool p : pools) {
                int lost = p.volume < p.leak ? p.volume : p.leak;
                p.volume -= lost;
                leaked += lost;
            }
            for (int i = 0; i < outlets.size(); i++) {
                Outlet o = outlets.get(i);
                if (!open(i, step)) {
                    continue;
                }
                for (int drop = 0; drop < o.takes; drop++) {
                    if (pools.get(o.pool).volume > 0) {
                        pools.get(o.pool).volume--;
                        o.took++;
                        went[o.pool]++;
                    } else {
                        o.lacked++;
                    }
                }
            }
            for (int i = 0; i < n; i++) {
                Pool p = pools.get(i);
                int can = i == 0 ? gives : pools.get(i - 1).volume;
                int passes = p.opening <= can ? p.opening : can;
                less[i] = passes < p.opening;
                if (i == 0) {
                    given += passes;
                } else {
                    pools.get(i - 1).volume -= passes;
                    went[i - 1] += passes;
                }
                p.passed.add(passes);
                if (p.delay == 0) {
                    p.volume += passes;
                    came[i] += passes;
                }
            }
            for (int i = 0; i < n; i++) {
                Pool p = pools.get(i);
                if (p.volume > p.crest) {
                    int goes = p.volume - p.crest;
                    p.volume = p.crest;
                    went[i] += goes;
                    if (i + 1 == n) {
                        out += goes;
                    } else {
                        pools.get(i + 1).volume += goes;
                        came[i + 1] += goes;
                        over[i + 1] += goes;
                    }
                }
            }
            for (int i = 0; i < n; i++) {
                Pool p = pools.get(i);
                int want = wanted(i, step + 1);
                for (int k = 0; k < p.by && p.opening != want; k++) {
                    p.opening += p.opening < want ? 1 : -1;
                }
            }
            List<Flow> flow = new ArrayList<>();
            for (int i = 0; i < n; i++) {
                Pool p = pools.get(i);
                flow.add(new Flow(came[i], went[i], ahead[i], p.passed.get(step)));
                int is = p.band(p.volume);
                int was = step == 0 ? 0 : p.band(ahead[i]);
                int cause = 0;
                if (is == 1 && was != 1) {
                    cause = less[i] ? 1 : wish(i, step + 1) > p.most ? 2 : p.opening != wanted(i, step + 1) ? 3
                        : p.leak > 0 ? 4 : 5;
                } else if (is == 2 && was != 2) {
                    cause = over[i] > 0 ? 6 : p.opening != wanted(i, step + 1) ? 7 : 8;
                }
                if (cause > 0) {
                    alarms.add(new Alarm(step, i, cause));
                }
            }
            flows.add(flow);
            step++;
        }

        State ahead(int n) {
            State s = copy();
            for (int i = 0; i < n; i++) {
                s.go(NONE, 0);
            }
            return s;
        }

        List<Event> events() {
            List<Event> list = new ArrayList<>();
            for (int i = 0; i < orders.size(); i++) {
                Order o = orders.get(i);
                list.add(new Event(o.from(), o.outlet(), i, 1));
                list.add(new Event(o.from() + o.many(), o.outlet(), i, 0));
            }
            list.removeIf(e -> e.step() < step);
            list.sort(Comparator.comparingInt(Event::step).thenComparingInt(Event::outlet)
                .thenComparingInt(Event::begins).thenComparingInt(Event::order));
            return list;
        }
    }

    // ---- the text

    private static final class Fault extends RuntimeException {
        private static final long serialVersionUID = 1L;
        final int kind;
        final int place;

        Fault(int kind, int place) {
            super("fault", null, false, false);
            this.kind = kind;
            this.place = place;
        }
    }

    private record Token(char kind, String text, int at, boolean glued) { }

    private static List<Token> tokens(String text) {
        List<Token> list = new ArrayList<>();
        int i = 0;
        char last = ' ';
        while (i < text.length()) {
            char c = text.charAt(i);
            int start = i;
            char kind = c >= 'a' && c <= 'z' ? 'w' : c >= '0' && c <= '9' ? 'n' : c == 10 || c == 32 ? ' ' : 's';
            i++;
            if (kind == 'w') {
                while (i < text.length() && text.charAt(i) >= 'a' && text.charAt(i) <= 'z') {
                    i++;
                }
            } else if (kind == 'n') {
                while (i < text.length() && text.charAt(i) >= '0' && text.charAt(i) <= '9') {
                    i++;
                }
            }
            if (kind != ' ') {
                boolean glued = (kind == 'w' || kind == 'n') && (last == 'w' || last == 'n');
                list.add(new Token(kind, text.substring(start, i), start, glued));
            }
            last = kind;
        }
        list.add(new Token('e', "", text.length(), false));
        return list;
    }

    private List<Token> rest;
    private State read;

    private Token peek() {
        return rest.get(0);
    }

    private Token ask(char kind) {
        Token t = rest.remove(0);
        if (t.kind() != kind || t.glued()) {
            throw new Fault(1, t.at());
        }
        return t;
    }

    private void word(String w) {
        Token t = ask('w');
        if (!t.text().equals(w)) {
            throw new Fault(1, t.at());
        }
    }

    private int number(int lo, int hi) {
        Token t = ask('n');
        if (t.text().length() > 4) {
            throw new Fault(1, t.at() + 4);
        }
        int v = Integer.parseInt(t.text());
        if (v < lo || v > hi) {
            throw new Fault(2, t.at());
        }
        return v;
    }

    private Token name() {
        Token t = ask('w');
        if (t.text().length() > 6) {
            throw new Fault(1, t.at() + 6);
        }
        if (OWN.contains(t.text())) {
            throw new Fault(1, t.at());
        }
        return t;
    }

    private String newName() {
        Token t = name();
        if (find(read, 0, t.text()) != NONE || find(read, 1, t.text()) != NONE) {
            throw new Fault(3, t.at());
        }
        return t.text();
    }

    private int known(int kind) {
        Token t = name();
        int which = find(read, kind, t.text());
        if (which == NONE) {
            throw new Fault(3, t.at());
        }
        return which;
    }

    private void sign(String s) {
        Token t = ask('s');
        if (!t.text().equals(s)) {
            throw new Fault(1, t.at());
        }
    }

    private void limit(int count, int most, int at) {
        if (count >= most) {
            throw new Fault(5, at);
        }
    }

    private void statement(boolean first) {
        if (first) {
            word("canal");
            word("gives");
            read.gives = number(0, 999);
            sign(";");
            return;
        }
        Token t = ask('w');
        switch (t.text()) {
            case "keep" -> read.gain = number(1, 99);
            case "pool" -> {
                limit(read.pools.size(), 8, t.at());
                Pool p = new Pool();
                p.name = newName();
                word("holds");
                p.volume = number(0, 9999);
                word("low");
                p.low = number(0, 9999);
                word("high");
                p.high = number(p.low, 9999);
                word("crest");
                p.crest = number(p.high, 9999);
                word("delay");
                p.delay = number(0, 9);
                word("leak");
                p.leak = number(0, 99);
                word("gate");
                p.most = number(0, 999);
                word("by");
                p.by = number(1, 999);
                word("open");
                p.opening = number(0, p.most);
                read.pools.add(p);
            }
            case "outlet" -> {
                limit(read.outlets.size(), 10, t.at());
                Outlet o = new Outlet();
                o.name = newName();
                word("at");
                o.pool = known(0);
                word("takes");
                o.takes = number(1, 99);
                read.outlets.add(o);
            }
            case "order" -> {
                limit(read.orders.size(), 16, t.at());
                int o = known(1);
                word("from");
                int from = number(0, 999);
                word("for");
                read.orders.add(new Order(o, from, number(1, 99)));
            }
            case "turns" -> {
                limit(read.turns.size(), 2, t.at());
                int every = number(1, 30);
                List<Integer> list = new ArrayList<>();
                do {
                    if (!list.isEmpty()) {
                        sign(",");
                    }
                    if (list.size() == 6) {
                        throw peek().kind() == 'e' ? new Fault(1, peek().at()) : new Fault(5, peek().at());
                    }
                    int at = peek().at();
                    int o = known(1);
                    if (list.contains(o)) {
                        throw new Fault(3, at);
                    }
                    list.add(o);
                } while (list.size() < 2 || peek().text().equals(","));
                read.turns.add(new Turn(every, list));
            }
            default -> throw new Fault(1, t.at());
        }
        sign(";");
    }

    // ---- the object

    State now;
    List<State> back = new ArrayList<>();
    String tape = "";
    int seed = 1;
    int fault;
    int place = NONE;
    int seenPool;
    List<Seen> seen = new ArrayList<>();
    int[] refused = new int[6];

    private int no(int kind) {
        refused[kind]++;
        return NONE;
    }

    private static int find(State s, int kind, String name) {
        if (s == null) {
            return NONE;
        }
        if (kind == 0) {
            for (int i = 0; i < s.pools.size(); i++) {
                if (s.pools.get(i).name.equals(name)) {
                    return i;
                }
            }
        } else if (kind == 1) {
            for (int i = 0; i < s.outlets.size(); i++) {
                if (s.outlets.get(i).name.equals(name)) {
                    return i;
                }
            }
        }
        return NONE;
    }

    private int pools() {
        return now == null ? 0 : now.pools.size();
    }

    private int outlets() {
        return now == null ? 0 : now.outlets.size();
    }

    private boolean isPool(int i) {
        return i >= 0 && i < pools();
    }

    private boolean isOutlet(int i) {
        return i >= 0 && i < outlets();
    }

    private boolean isOrder(int i) {
        return now != null && i >= 0 && i < now.orders.size();
    }

    private static boolean in(int v, int lo, int hi) {
        return v >= lo && v <= hi;
    }

    int feed(int... numbers) {
        if (tape.length() + 20 > 1600) {
            return no(0);
        }
        StringBuilder b = new StringBuilder(tape);
        for (int n : numbers) {
            b.append((char) (n >>> 24)).append((char) (n >>> 16 & 255)).append((char) (n >>> 8 & 255))
                .append((char) (n & 255));
        }
        tape = b.toString();
        return tape.length();
    }

    boolean end(int n) {
        if (!in(n, 0, tape.length())) {
            return no(0) != NONE;
        }
        tape = tape.substring(0, n);
        return true;
    }

    int canal() {
        String text = tape;
        tape = "";
        rest = tokens(text);
        read = new State();
        int statements = 0;
        fault = 0;
        place = NONE;
        try {
            do {
                statement(statements == 0);
                statements++;
            } while (peek().kind() != 'e');
        } catch (Fault f) {
            fault = f.kind;
            place = f.place;
            return no(1);
        }
        now = read;
        back.clear();
        seen.clear();
        return statements;
    }

    int fault(int what) {
        return what == 0 ? fault : what == 1 ? place : NONE;
    }

    int has(int what) {
        if (!in(what, 0, 10)) {
            return NONE;
        }
        if (what == 9) {
            return seed;
        }
        if (now == null) {
            return 0;
        }
        int bits = 0;
        for (int i = 0; i < pools(); i++) {
            bits += now.pools.get(i).band(now.pools.get(i).volume) != 0 ? 1 << i : 0;
        }
        return new int[] {pools(), outlets(), now.orders.size(), now.step, now.gives, now.gain,
            told().size(), seen.size(), back.size(), seed, bits}[what];
    }

    private List<Alarm> told() {
        if (now == null) {
            return List.of();
        }
        return now.alarms.subList(Math.max(0, now.alarms.size() - 40), now.alarms.size());
    }

    int letter(int kind, int which, int k) {
        if (!in(k, 0, 5) || !(kind == 0 && isPool(which) || kind == 1 && isOutlet(which))) {
            return NONE;
        }
        String name = kind == 0 ? now.pools.get(which).name : now.outlets.get(which).name;
        return k < name.length() ? name.charAt(k) - 96 : 0;
    }

    int named(int kind) {
        String name = tape;
        tape = "";
        return find(now, kind, name);
    }

    int pool(int pool, int what) {
        if (!isPool(pool) || !in(what, 0, 8)) {
            return NONE;
        }
        Pool p = now.pools.get(pool);
        return new int[] {p.volume, p.low, p.high, p.crest, p.delay, p.leak, now.onWay(pool), p.middle(),
            p.band(p.volume)}[what];
    }

    int gate(int gate, int what) {
        if (!isPool(gate) || !in(what, 0, 5)) {
            return NONE;
        }
        Pool p = now.pools.get(gate);
        return new int[] {p.opening, p.most, p.by, now.wanted(gate, now.step), p.hand,
            now.step == 0 ? 0 : p.passed.get(now.step - 1)}[what];
    }

    int row(int pool, int k) {
        return isPool(pool) && in(k, 0, now.pools.get(pool).delay - 1) ? now.row(pool, k) : NONE;
    }

    int outlet(int outlet, int what) {
        if (!isOutlet(outlet) || !in(what, 0, 5)) {
            return NONE;
        }
        Outlet o = now.outlets.get(outlet);
        int needs = 0;
        for (int i = 0; i <= o.pool; i++) {
            needs += now.pools.get(i).delay;
        }
        return new int[] {o.pool, o.takes, now.open(outlet, now.step) ? 1 : 0, o.took, o.lacked, needs}[what];
    }

    int order(int order, int what) {
        if (!isOrder(order) || !in(what, 0, 3)) {
            return NONE;
        }
        Order o = now.orders.get(order);
        int state = now.step < o.from() ? 0 : now.step >= o.from() + o.many() ? 2 : 1;
        return new int[] {o.outlet(), o.from(), o.many(), state}[what];
    }

    int opens(int outlet, int step) {
        return !isOutlet(outlet) || !in(step, 0, 9999) ? NONE : now.open(outlet, step) ? 1 : 0;
    }

    int load(int gate, int step) {
        return !isPool(gate) || !in(step, 0, 9999) ? NONE : now.load(gate, step);
    }

    int account(int what) {
        if (now == null || !in(what, 0, 6)) {
            return NONE;
        }
        return new int[] {now.given, now.tookInAll(), now.leaked, now.out, now.rained, now.there(),
            now.lackedInAll()}[what];
    }

    int event(int k, int what) {
        List<Event> list = now == null ? List.of() : now.events();
        if (k == NONE) {
            return list.size();
        }
        if (!in(k, 0, list.size() - 1) || !in(what, 0, 3)) {
            return NONE;
        }
        Event e = list.get(k);
        return new int[] {e.step(), e.outlet(), e.order(), e.begins()}[what];
    }

    int rank(int k) {
        List<Integer> list = new ArrayList<>();
        for (int i = 0; i < pools(); i++) {
            list.add(i);
        }
        list.sort(Comparator.comparingInt(
            i -> -Math.abs(now.pools.get(i).volume - now.pools.get(i).middle())));
        return in(k, 0, list.size() - 1) ? list.get(k) : NONE;
    }

    int alarm(int k, int what) {
        if (!in(k, 0, told().size() - 1) || !in(what, 0, 2)) {
            return NONE;
        }
        Alarm a = told().get(k);
        return new int[] {a.step(), a.pool(), a.cause()}[what];
    }

    int alarms(int pool, int cause) {
        if (!in(cause, 1, 8) || pool != NONE && !isPool(pool)) {
            return NONE;
        }
        return (int) told().stream().filter(a -> a.cause() == cause && (pool == NONE || a.pool() == pool)).count();
    }

    int flow(int pool, int k, int what) {
        if (!isPool(pool) || !in(k, 1, Math.min(40, now.step)) || !in(what, 0, 3)) {
            return NONE;
        }
        Flow f = now.flows.get(now.step - k).get(pool);
        return new int[] {f.came(), f.went(), f.ahead(), f.passed()}[what];
    }

    int missing(int pool, int n) {
        if (!isPool(pool) || !in(n, 1, Math.min(40, now.step))) {
            return NOTHING;
        }
        int sum = 0;
        for (int k = 1; k <= n; k++) {
            sum += flow(pool, k, 0) - flow(pool, k, 1);
        }
        return sum - (now.pools.get(pool).volume - flow(pool, n, 2));
    }

    int later(int pool, int n) {
        return isPool(pool) && in(n, 0, 200) ? now.ahead(n).pools.get(pool).volume : NONE;
    }

    int opening(int gate, int n) {
        return isPool(gate) && in(n, 0, 200) ? now.ahead(n).pools.get(gate).opening : NONE;
    }

    int when(int pool, int what) {
        if (!isPool(pool) || !in(what, 0, 2)) {
            return NONE;
        }
        State s = now.copy();
        for (int i = 1; i <= 200; i++) {
            s.go(NONE, 0);
            if (s.pools.get(pool).band(s.pools.get(pool).volume) == (what + 1) % 3) {
                return i;
            }
        }
        return NONE;
    }

    int lacks(int outlet, int n) {
        if (now == null || !in(n, 1, 200) || outlet != NONE && !isOutlet(outlet)) {
            return NONE;
        }
        State s = now.ahead(n);
        return outlet == NONE ? s.lackedInAll() - now.lackedInAll()
            : s.outlets.get(outlet).lacked - now.outlets.get(outlet).lacked;
    }

    int least(int n) {
        if (pools() == 0 || !in(n, 1, 60)) {
            return NONE;
        }
        for (int g = 0; g <= 999; g++) {
            State s = now.copy();
            s.gives = g;
            if (s.ahead(n).lackedInAll() == now.lackedInAll()) {
                return g;
            }
        }
        return NONE;
    }

    private static int outs(State s, int n, int pool) {
        int sum = 0;
        State a = s.copy();
        for (int i = 0; i < n; i++) {
            a.go(NONE, 0);
            for (int p = 0; p < a.pools.size(); p++) {
                if ((pool == NONE || p == pool) && a.pools.get(p).band(a.pools.get(p).volume) != 0) {
                    sum++;
                }
            }
        }
        return sum;
    }

    int gain(int n, int what) {
        if (pools() == 0 || !in(n, 1, 100) || !in(what, 0, 1)) {
            return NONE;
        }
        int best = 0;
        int times = 1 << 30;
        for (int g = 30; g >= 1; g--) {
            State s = now.copy();
            s.gain = g;
            int t = outs(s, n, NONE);
            if (t <= times) {
                times = t;
                best = g;
            }
        }
        return what == 0 ? best : times;
    }

    int best(int gate, int n, int what) {
        if (!isPool(gate) || !in(n, 1, 40) || !in(what, 0, 1)) {
            return NONE;
        }
        int best = 0;
        int times = 1 << 30;
        for (int h = now.pools.get(gate).most; h >= 0; h--) {
            State s = now.copy();
            s.pools.get(gate).hand = h;
            int t = outs(s, n, gate);
            if (t <= times) {
                times = t;
                best = h;
            }
        }
        return what == 0 ? best : times;
    }

    int fits(int outlet, int n) {
        if (!isOutlet(outlet) || !in(n, 1, 99) || now.orders.size() == 16) {
            return NONE;
        }
        int without = now.ahead(200).lackedInAll();
        for (int from = now.step; from < now.step + 60; from++) {
            State s = now.copy();
            s.orders.add(new Order(outlet, from, n));
            if (s.ahead(200).lackedInAll() <= without) {
                return from;
            }
        }
        return NONE;
    }

    int see(int pool) {
        String t = tape;
        tape = "";
        List<Seen> rows = new ArrayList<>();
        for (int i = 0; i + 3 <= t.length(); i += 3) {
            rows.add(new Seen(t.charAt(i), t.charAt(i + 1) * 256 + t.charAt(i + 2)));
        }
        boolean right = t.length() % 3 == 0 && in(rows.size(), 1, 10);
        for (Seen s : rows) {
            right &= in(s.steps(), 1, 40);
        }
        if (!right || !isPool(pool)) {
            return no(5);
        }
        seen = rows;
        seenPool = pool;
        return rows.size();
    }

    private Map<Integer, List<Integer>> fitting() {
        Map<Integer, List<Integer>> map = new HashMap<>();
        for (int leak = 0; leak <= 40; leak++) {
            State s = now.copy();
            s.pools.get(seenPool).leak = leak;
            List<Integer> volumes = new ArrayList<>();
            for (int i = 1; i <= 40; i++) {
                s.go(NONE, 0);
                volumes.add(s.pools.get(seenPool).volume);
            }
            boolean all = true;
            for (Seen r : seen) {
                all &= volumes.get(r.steps() - 1) == r.volume();
            }
            if (all) {
                map.put(leak, volumes);
            }
        }
        return map;
    }

    int leaks(int k) {
        if (seen.isEmpty()) {
            return NONE;
        }
        List<Integer> fits = new ArrayList<>(fitting().keySet());
        fits.sort(null);
        return k == NONE ? fits.size() : in(k, 0, fits.size() - 1) ? fits.get(k) : NONE;
    }

    int tells(int what) {
        if (seen.isEmpty() || !in(what, 0, 1)) {
            return NONE;
        }
        Map<Integer, List<Integer>> fits = fitting();
        if (fits.isEmpty()) {
            return NONE;
        }
        int best = 0;
        int fewest = 1 << 30;
        for (int i = 40; i >= 1; i--) {
            Map<Integer, Integer> groups = new HashMap<>();
            for (List<Integer> v : fits.values()) {
                groups.merge(v.get(i - 1), 1, Integer::sum);
            }
            int most = new ArrayList<>(groups.values()).stream().mapToInt(x -> x).max().getAsInt();
            if (most <= fewest) {
                fewest = most;
                best = i;
            }
        }
        return what == 0 ? best : fewest;
    }

    private void act() {
        back.add(now.copy());
        if (back.size() > 20) {
            back.remove(0);
        }
    }

    int steps(int n) {
        if (now == null || !in(n, 1, 100) || now.step + n > 9999) {
            return no(2);
        }
        act();
        for (int i = 0; i < n; i++) {
            now.go(NONE, 0);
        }
        return now.step;
    }

    private int draw(int m) {
        seed = (int) Math.floorMod(1103515245L * seed + 12345L, 1L << 31);
        return Math.floorDiv(seed, 64) % m;
    }

    int chance(int n) {
        if (pools() == 0 || !in(n, 1, 60) || now.step + n > 9999) {
            return no(2);
        }
        act();
        for (int i = 0; i < n; i++) {
            int pool = draw(pools());
            int rain = draw(20);
            now.go(pool, rain);
        }
        return now.step;
    }

    int ask(int outlet, int from, int many) {
        if (!isOutlet(outlet) || !in(from, now.step, 9999) || !in(many, 1, 99) || now.orders.size() >= 16) {
            return no(3);
        }
        act();
        now.orders.add(new Order(outlet, from, many));
        return now.orders.size() - 1;
    }

    boolean cancel(int order) {
        if (!isOrder(order)) {
            return no(3) != NONE;
        }
        act();
        now.orders.remove(order);
        return true;
    }

    boolean hand(int gate, int wanted) {
        if (!isPool(gate) || !in(wanted, -1, now.pools.get(gate).most) || now.pools.get(gate).hand == wanted) {
            return no(3) != NONE;
        }
        act();
        now.pools.get(gate).hand = wanted;
        return true;
    }

    boolean set(int what, int which, int v) {
        boolean right = now != null;
        right = right && switch (what) {
            case 0 -> isPool(which) && in(v, 0, 99) && v != now.pools.get(which).leak;
            case 1 -> which == 0 && in(v, 0, 999) && v != now.gives;
            case 2 -> which == 0 && in(v, 1, 99) && v != now.gain;
            default -> false;
        };
        if (!right) {
            return no(3) != NONE;
        }
        act();
        if (what == 0) {
            now.pools.get(which).leak = v;
        } else if (what == 1) {
            now.gives = v;
        } else {
            now.gain = v;
        }
        return true;
    }

    boolean undo() {
        if (back.isEmpty()) {
            return no(4) != NONE;
        }
        now = back.remove(back.size() - 1);
        return true;
    }

    boolean seed(int s) {
        if (s < 0) {
            return no(5) != NONE;
        }
        seed = s;
        return true;
    }

    int status(int what) {
        return in(what, 0, 5) ? refused[what] : NONE;
    }
}
