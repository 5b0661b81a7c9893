import java.math.BigInteger;
import java.util.ArrayDeque;
import java.util.ArrayList;
import java.util.Deque;
import java.util.HashMap;
import java.util.HashSet;
import java.util.LinkedHashMap;
import java.util.List;
import java.util.Map;
import java.util.Set;
import java.util.regex.Matcher;
import java.util.regex.Pattern;

/** The document once more, written without regard to speed or room, to hold the class against. */
final class Model {
    static final class Fault extends Exception {
        private static final long serialVersionUID = 1L;
        final int number;
        final int place;

        Fault(int number, int place) {
            this.number = number;
            this.place = place;
        }
    }

    record Token(String text, int place) { }

    record Vent(int weather, int by, int coins) { }

    record Plan(int day, int weather, int worth) { }

    record Saw(int day, int who) { }

    record Ditch(int from, int to, int carries) { }

    /** All of one time; past holds the weathers of the days that went by. */
    record Time(int angle, int damp, int oil, Set<Integer> open, List<Integer> past) {
        int day() {
            return past.size();
        }
    }

    static final class Chalet {
        int damp;
        int wood;
        int oil;
        int gust;
        int wet = 10;
        int fine = 10;
        List<Vent> vents = new ArrayList<>();
        List<Plan> plans = new ArrayList<>();
        List<Saw> saws = new ArrayList<>();
        List<String> fields = new ArrayList<>();
        List<Ditch> ditches = new ArrayList<>();
    }

    static final Map<String, String> LINES = new LinkedHashMap<>();
    static final Map<String, Integer> ROOMS = Map.of("vent", 4, "plan", 6, "saw", 5, "field", 6, "ditch", 9);

    static {
        LINES.put("chalet", "damp 0..100 wood 0..9 oil 0..3 gust 0..100");
        LINES.put("weather", "wet 0..30 fine 0..30");
        LINES.put("vent", "NEW WEATHER 1..9 costs 0..99");
        LINES.put("plan", "NEW on 0..20 WEATHER worth 0..99");
        LINES.put("saw", "day 0..20 WHO");
        LINES.put("field", "NEW");
        LINES.put("ditch", "FIELD FIELD carries 1..99");
    }

    String tape = "";
    Chalet chalet;
    Time now;
    Deque<Time> undos = new ArrayDeque<>();
    List<Time> images = new ArrayList<>();
    int trouble;
    int fault;
    int place;

    // ---- the text

    static Token tokenAt(String text, int from) {
        int at = from;
        while (at < text.length() && text.charAt(at) == ' ') {
            at++;
        }
        if (at == text.length()) {
            return new Token("", at);
        }
        Matcher m = Pattern.compile("[a-z]+|[0-9]+|;").matcher(text).region(at, text.length());
        if (!m.lookingAt()) {
            return new Token("?", at);
        }
        String s = m.group();
        boolean ok = s.matches("[a-z]{1,8}|[0-9]{1,3}|;");
        return new Token(ok ? s : "?" + s, at);
    }

    static Chalet parse(String text) throws Fault {
        Chalet c = new Chalet();
        Map<String, String> names = new HashMap<>();
        Map<String, Integer> lines = new HashMap<>();
        int at = 0;
        while (true) {
            Token first = tokenAt(text, at);
            at = first.place() + first.text().length();
            String sort = first.text();
            if (!LINES.containsKey(sort)) {
                throw new Fault(1, first.place());
            }
            int before = lines.merge(sort, 1, Integer::sum) - 1;
            if (before > 0 && (sort.equals("chalet") || sort.equals("weather"))) {
                throw new Fault(3, first.place());
            }
            if (ROOMS.containsKey(sort) && before >= ROOMS.get(sort)) {
                throw new Fault(5, first.place());
            }
            if (!lines.containsKey("chalet")) {
                throw new Fault(6, first.place());
            }
            List<Integer> got = new ArrayList<>();
            for (String want : LINES.get(sort).split(" ")) {
                Token t = tokenAt(text, at);
                at = t.place() + t.text().length();
                part(c, names, sort, want, t, got);
            }
            keep(c, sort, got);
            Token behind = tokenAt(text, at);
            if (behind.text().isEmpty()) {
                return c;
            }
            if (!behind.text().equals(";")) {
                throw new Fault(1, behind.place());
            }
            at = behind.place() + 1;
        }
    }

    private static void part(Chalet c, Map<String, String> names, String sort, String want, Token t, List<Integer> got)
            throws Fault {
        boolean isWord = t.text().matches("[a-z]+");
        if (want.contains("..")) {
            if (!t.text().matches("[0-9]+")) {
                throw new Fault(1, t.place());
            }
            int n = Integer.parseInt(t.text());
            String[] bounds = want.split("\\.\\.");
            if (n < Integer.parseInt(bounds[0]) || n > Integer.parseInt(bounds[1])) {
                throw new Fault(4, t.place());
            }
            if (sort.equals("saw") && c.saws.stream().anyMatch(s -> s.day() == n)) {
                throw new Fault(3, t.place());
            }
            got.add(n);
        } else if (want.equals("NEW")) {
            if (!isWord || LINES.containsKey(t.text())) {
                throw new Fault(1, t.place());
            }
            if (names.containsKey(t.text())) {
                throw new Fault(3, t.place());
            }
            names.put(t.text(), sort);
            if (sort.equals("field")) {
                c.fields.add(t.text());
            }
        } else if (want.equals("FIELD")) {
            if (!isWord || LINES.containsKey(t.text())) {
                throw new Fault(1, t.place());
            }
            if (!"field".equals(names.get(t.text()))) {
                throw new Fault(2, t.place());
            }
            int f = c.fields.indexOf(t.text());
            if (!got.isEmpty()) {
                int from = got.get(0);
                if (from == f || c.ditches.stream().anyMatch(d -> d.from() == from && d.to() == f)) {
                    throw new Fault(3, t.place());
                }
            }
            got.add(f);
        } else {
            List<String> choice = want.equals("WEATHER") ? List.of("-", "wet", "fine")
                    : want.equals("WHO") ? List.of("none", "he", "she", "both") : List.of(want);
            int n = choice.indexOf(t.text());
            if (n < 0) {
                throw new Fault(1, t.place());
            }
            if (choice.size() > 1) {
                got.add(n);
            }
        }
    }

    private static void keep(Chalet c, String sort, List<Integer> g) {
        switch (sort) {
            case "chalet" -> {
                c.damp = g.get(0);
                c.wood = g.get(1);
                c.oil = g.get(2);
                c.gust = g.get(3);
            }
            case "weather" -> {
                c.wet = g.get(0);
                c.fine = g.get(1);
            }
            case "vent" -> c.vents.add(new Vent(g.get(0), g.get(1), g.get(2)));
            case "plan" -> c.plans.add(new Plan(g.get(0), g.get(1), g.get(2)));
            case "saw" -> c.saws.add(new Saw(g.get(0), g.get(1)));
            case "ditch" -> c.ditches.add(new Ditch(g.get(0), g.get(1), g.get(2)));
            default -> { }
        }
    }

    int chalet(int n) {
        if (n < 0 || n > tape.length()) {
            trouble = 2;
            return -1;
        }
        String text = tape.substring(0, n);
        tape = "";
        try {
            chalet = parse(text);
        } catch (Fault f) {
            fault = f.number;
            place = f.place;
            trouble = 4;
            return -1;
        }
        fault = 0;
        trouble = 0;
        now = new Time(0, chalet.damp, chalet.oil, Set.of(), List.of());
        undos.clear();
        images.clear();
        return chalet.vents.size();
    }

    int where() {
        return trouble == 4 ? place : -1;
    }

    // ---- days

    static int who(int angle, int oil) {
        boolean he = angle >= 3 - oil;
        boolean she = angle <= -(3 - oil);
        return he && she ? 3 : he ? 1 : she ? 2 : 0;
    }

    static int who(Time t) {
        return who(t.angle(), t.oil());
    }

    static int tenth(int damp) {
        return damp >= 50 ? (damp - 50) / 10 : -((50 - damp) / 10);
    }

    static int most(int damp, int wood, int oil) {
        int m = 1 + oil;
        if (damp >= 100 - 10 * wood) {
            m = m - 1;
        }
        return m < 0 ? 0 : m;
    }

    static int toward(int angle, int pull, int most) {
        int a = angle;
        for (int i = 0; i < most; i++) {
            a += Integer.compare(pull, a);
        }
        return a;
    }

    Time pass(Time t, int wood) {
        int out = who(t);
        int weather = out == 1 ? 1 : out == 2 ? 2 : 0;
        int damp = t.damp();
        if (weather == 1) {
            damp = Math.min(100, damp + chalet.wet);
        }
        if (weather == 2) {
            damp = Math.max(0, damp - chalet.fine);
        }
        int pull = tenth(damp);
        for (int k : t.open()) {
            Vent v = chalet.vents.get(k);
            pull += v.weather() == 1 ? v.by() : -v.by();
        }
        pull = pull > 9 ? 9 : pull < -9 ? -9 : pull;
        List<Integer> past = new ArrayList<>(t.past());
        past.add(weather);
        return new Time(toward(t.angle(), pull, most(damp, wood, t.oil())), damp, t.oil(), Set.of(), past);
    }

    Time pass(Time t) {
        return pass(t, chalet.wood);
    }

    Time passWith(Time t, int pick) {
        Set<Integer> open = new HashSet<>(t.open());
        if (pick > 0) {
            open.add(pick - 1);
        }
        return pass(new Time(t.angle(), t.damp(), t.oil(), open, t.past()));
    }

    Time in(int n) {
        Time t = now;
        for (int i = 0; i < n; i++) {
            t = pass(t);
        }
        return t;
    }

    int stays() {
        List<Integer> such = new ArrayList<>();
        for (int d = 0; d <= 100; d++) {
            if (toward(now.angle(), tenth(d), most(d, chalet.wood, now.oil())) == now.angle()) {
                such.add(d);
            }
        }
        return such.isEmpty() ? -2 : 1000 * such.get(0) + such.get(such.size() - 1);
    }

    int daysOf(int weather, int n) {
        return (int) in(n).past().subList(now.day(), now.day() + n).stream().filter(w -> w == weather).count();
    }

    int when(int who) {
        for (int i = 0; i <= 60; i++) {
            if (who(in(i)) == who) {
                return i;
            }
        }
        return -2;
    }

    int round() {
        Map<List<Integer>, Integer> seen = new HashMap<>();
        Time t = now;
        for (int i = 1; ; i++) {
            Time next = pass(t);
            t = new Time(next.angle(), next.damp(), next.oil(), next.open(), List.of());
            Integer ahead = seen.putIfAbsent(List.of(t.angle(), t.damp()), i);
            if (ahead != null) {
                return 10000 * i + (i - ahead);
            }
        }
    }

    boolean planKept(int k) {
        Plan p = chalet.plans.get(k);
        Time t = now;
        while (t.day() <= p.day()) {
            t = pass(t);
        }
        return t.past().get(p.day()) == p.weather();
    }

    int kept(Time end, int from) {
        return chalet.plans.stream().filter(p -> p.day() >= from && p.day() < end.day())
                .filter(p -> end.past().get(p.day()) == p.weather()).mapToInt(Plan::worth).sum();
    }

    boolean allKept(Time end, int from) {
        return chalet.plans.stream().filter(p -> p.day() >= from && p.day() < end.day())
                .allMatch(p -> end.past().get(p.day()) == p.weather());
    }

    // ---- vents

    List<int[]> rows(int n) {
        List<int[]> all = new ArrayList<>();
        int top = (int) Math.pow(10, n);
        for (int row = 0; row < top; row++) {
            int[] picks = picks(row, n);
            if (picks != null) {
                all.add(picks);
            }
        }
        return all;
    }

    /** The digits of a row, null if it is none. */
    int[] picks(int row, int n) {
        if (row < 0 || String.valueOf(row).length() > n) {
            return null;
        }
        String s = "0".repeat(n - String.valueOf(row).length()) + row;
        int[] picks = s.chars().map(ch -> ch - '0').toArray();
        for (int p : picks) {
            if (p > chalet.vents.size()) {
                return null;
            }
        }
        return picks;
    }

    static int number(int[] picks) {
        StringBuilder s = new StringBuilder();
        for (int p : picks) {
            s.append(p);
        }
        return Integer.parseInt(s.toString());
    }

    Time follow(int[] picks) {
        Time t = now;
        for (int p : picks) {
            t = passWith(t, p);
        }
        return t;
    }

    int coins(int[] picks) {
        int sum = 0;
        for (int p : picks) {
            sum += p == 0 ? 0 : chalet.vents.get(p - 1).coins();
        }
        return sum;
    }

    int worth(int[] picks) {
        return kept(follow(picks), now.day()) - coins(picks);
    }

    int[] best(int n) {
        int[] best = null;
        for (int[] r : rows(n)) {
            if (best == null || worth(r) > worth(best)) {
                best = r;
            }
        }
        return best;
    }

    int[] sure(int n) {
        int[] best = null;
        for (int[] r : rows(n)) {
            if (allKept(follow(r), now.day()) && (best == null || coins(r) < coins(best))) {
                best = r;
            }
        }
        return best;
    }

    int rowFor(int who, int n) {
        int[] best = null;
        for (int[] r : rows(n)) {
            if (who(follow(r)) == who && (best == null || opened(r) < opened(best))) {
                best = r;
            }
        }
        return best == null ? -2 : number(best);
    }

    static int opened(int[] picks) {
        int n = 0;
        for (int p : picks) {
            n += p == 0 ? 0 : 1;
        }
        return n;
    }

    // ---- makes

    int whoBehind(int wood, int oil, int day) {
        Time t = new Time(0, chalet.damp, oil, Set.of(), List.of());
        for (int i = 0; i <= day; i++) {
            t = pass(t, wood);
        }
        return who(t);
    }

    List<int[]> makes() {
        List<int[]> all = new ArrayList<>();
        for (int wood = 0; wood <= 9; wood++) {
            for (int oil = 0; oil <= 3; oil++) {
                int w = wood;
                int o = oil;
                if (chalet.saws.stream().allMatch(s -> whoBehind(w, o, s.day()) == s.who())) {
                    all.add(new int[] {w, o});
                }
            }
        }
        return all;
    }

    int could(int which) {
        return makes().stream().mapToInt(m -> 1 << m[which]).reduce(0, (a, b) -> a | b);
    }

    int surely(int which) {
        int[] all = makes().stream().mapToInt(m -> m[which]).distinct().toArray();
        return all.length == 1 ? all[0] : -2;
    }

    /** The day to look at, and how many are left at most. */
    int[] look() {
        List<int[]> all = makes();
        if (all.isEmpty()) {
            return new int[] {-2, -2};
        }
        int[] best = {-2, 1000};
        for (int day = 0; day <= 20; day++) {
            Map<Integer, Integer> groups = new HashMap<>();
            for (int[] m : all) {
                groups.merge(whoBehind(m[0], m[1], day), 1, Integer::sum);
            }
            int left = groups.values().stream().mapToInt(i -> i).max().getAsInt();
            if (left < best[1]) {
                best = new int[] {day, left};
            }
        }
        return best;
    }

    int judge() {
        for (int k = 0; k < chalet.saws.size(); k++) {
            if (whoBehind(chalet.wood, chalet.oil, chalet.saws.get(k).day()) != chalet.saws.get(k).who()) {
                return k;
            }
        }
        return -2;
    }

    // ---- turns

    int value(Time t, int turn, int n) {
        if (turn == n) {
            return t.angle();
        }
        List<Integer> all = new ArrayList<>();
        for (int p = 0; p <= chalet.vents.size(); p++) {
            all.add(value(passWith(t, p), turn + 1, n));
        }
        all.sort(null);
        return turn % 2 == 0 ? all.get(all.size() - 1) : all.get(0);
    }

    int opens(int n) {
        int value = value(now, 0, n);
        for (int p = 0; p <= chalet.vents.size(); p++) {
            if (value(passWith(now, p), 1, n) == value) {
                return p == 0 ? -2 : p - 1;
            }
        }
        throw new IllegalStateException();
    }

    // ---- floods

    int[] carried() {
        return chalet.ditches.stream().mapToInt(Ditch::carries).toArray();
    }

    /** By ways that still let something through, one after the other. */
    int flood(int[] carries) {
        int n = chalet.fields.size();
        if (n < 2) {
            return 0;
        }
        int[][] rest = new int[n][n];
        for (int k = 0; k < carries.length; k++) {
            rest[chalet.ditches.get(k).from()][chalet.ditches.get(k).to()] += carries[k];
        }
        int sum = 0;
        for (int by = push(rest, 0, n - 1, 1 << 30, new boolean[n]); by > 0;
                by = push(rest, 0, n - 1, 1 << 30, new boolean[n])) {
            sum += by;
        }
        return sum;
    }

    private static int push(int[][] rest, int at, int goal, int most, boolean[] been) {
        if (at == goal) {
            return most;
        }
        been[at] = true;
        for (int to = 0; to < rest.length; to++) {
            if (!been[to] && rest[at][to] > 0) {
                int by = push(rest, to, goal, Math.min(most, rest[at][to]), been);
                if (by > 0) {
                    rest[at][to] -= by;
                    rest[to][at] += by;
                    return by;
                }
            }
        }
        return 0;
    }

    int cut() {
        int n = chalet.fields.size();
        if (n < 2) {
            return -2;
        }
        int flood = flood(carried());
        for (int side = 0; side < 1 << n; side++) {
            int s = side;
            int across = chalet.ditches.stream().filter(d -> (s >> d.from()) % 2 == 1 && (s >> d.to()) % 2 == 0)
                    .mapToInt(Ditch::carries).sum();
            if (side % 2 == 1 && (side >> (n - 1)) % 2 == 0 && across == flood) {
                return side;
            }
        }
        throw new IllegalStateException();
    }

    int floodIf(int k, int carries) {
        int[] all = carried();
        all[k] = carries;
        return flood(all);
    }

    int narrow() {
        int bits = 0;
        for (int k = 0; k < chalet.ditches.size(); k++) {
            if (floodIf(k, chalet.ditches.get(k).carries() + 1) > flood(carried())) {
                bits += 1 << k;
            }
        }
        return bits;
    }

    int downhill(int f) {
        Deque<Integer> open = new ArrayDeque<>(List.of(f));
        Set<Integer> been = new HashSet<>(List.of(f));
        while (!open.isEmpty()) {
            int at = open.pop();
            for (Ditch d : chalet.ditches) {
                if (d.from() == at && been.add(d.to())) {
                    open.push(d.to());
                }
            }
        }
        return been.stream().mapToInt(i -> 1 << i).sum();
    }

    // ---- gusts

    static Time gust(Time t) {
        return new Time(t.angle() < 9 ? t.angle() + 1 : 9, t.damp(), t.oil(), t.open(), t.past());
    }

    /** Which times there may be behind n days, each with its weight of 100 to the n. */
    Map<Time, BigInteger> chances(int n) {
        Map<Time, BigInteger> all = new HashMap<>();
        all.put(now, BigInteger.ONE);
        for (int i = 0; i < n; i++) {
            Map<Time, BigInteger> next = new HashMap<>();
            for (Map.Entry<Time, BigInteger> e : all.entrySet()) {
                Time t = pass(e.getKey());
                next.merge(gust(t), e.getValue().multiply(BigInteger.valueOf(chalet.gust)), BigInteger::add);
                next.merge(t, e.getValue().multiply(BigInteger.valueOf(100 - chalet.gust)), BigInteger::add);
            }
            all = next;
        }
        return all;
    }

    long lowest(BigInteger upper, int n, boolean lower) {
        BigInteger all = BigInteger.valueOf(100).pow(n);
        BigInteger common = all.gcd(upper);
        return (lower ? all : upper).divide(common).longValueExact();
    }

    long likely(int who, int n, boolean lower) {
        BigInteger sum = BigInteger.ZERO;
        for (Map.Entry<Time, BigInteger> e : chances(n).entrySet()) {
            sum = who(e.getKey()) == who ? sum.add(e.getValue()) : sum;
        }
        return lowest(sum, n, lower);
    }

    long mean(int n, boolean lower) {
        BigInteger sum = BigInteger.ZERO;
        for (Map.Entry<Time, BigInteger> e : chances(n).entrySet()) {
            sum = sum.add(e.getValue().multiply(BigInteger.valueOf(e.getKey().angle() + 9)));
        }
        return lowest(sum, n, lower);
    }

    Time drawn(int seed, int n) {
        Time t = now;
        long s = seed;
        for (int i = 0; i < n; i++) {
            t = pass(t);
            s = (75 * s + 74) % 65537;
            t = s % 100 < chalet.gust ? gust(t) : t;
        }
        return t;
    }

    // ---- acts

    void act(Time next) {
        undos.push(now);
        if (undos.size() > 16) {
            undos.removeLast();
        }
        now = next;
    }

    int led(int i) {
        List<Integer> all = new ArrayList<>();
        for (int k = 0; chalet != null && k < chalet.plans.size(); k++) {
            Plan p = chalet.plans.get(k);
            if (p.day() < now.day() && now.past().get(p.day()) == p.weather()) {
                all.add(k);
            }
        }
        return i >= 0 && i < all.size() ? all.get(i) : -1000;
    }

    int size(int what) {
        if (what == 13) {
            return tape.length();
        }
        if (what < 0 || what > 13) {
            return -1;
        }
        if (chalet == null) {
            return 0;
        }
        int[] all = {chalet.wood, chalet.oil, chalet.gust, chalet.wet, chalet.fine, chalet.vents.size(),
            chalet.plans.size(), chalet.saws.size(), chalet.fields.size(), chalet.ditches.size(), now.day(),
            undos.size(), images.size()};
        return all[what];
    }
}
