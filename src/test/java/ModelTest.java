import java.nio.charset.StandardCharsets;
import java.util.HashSet;
import java.util.Random;
import java.util.Set;

/** Random runs of calls on random chalets, each answer held against the plain model of the document. */
public final class ModelTest {
    private static final int RUNS = 1500;
    private static final int CALLS = 60;
    private static final String[] NAMES = {"a", "b", "c", "d", "e", "f", "g", "damp", "wet", "he", "on", "abcdefgh"};

    private final Random random;
    private final ChaletRule x = new ChaletRule();
    private final Model m = new Model();
    private String log = "";

    private ModelTest(long seed) {
        random = new Random(seed);
    }

    public static void main(String[] args) {
        Check all = new Check();
        for (int run = 0; run < RUNS; run++) {
            ModelTest t = new ModelTest(run);
            all.due("run " + run + t.play(), t.wrongs, 0);
        }
        all.end("ModelTest");
    }

    private int wrongs = 0;

    private String play() {
        int calls = 0;
        load();
        while (calls < CALLS && wrongs == 0) {
            one();
            calls++;
            same("trouble()", x.trouble(), m.trouble);
            same("where()", x.where(), m.where());
            same("fault()", x.fault(), m.fault);
        }
        return wrongs == 0 ? "" : log;
    }

    private void same(String call, long got, long want) {
        if (got != want && wrongs++ == 0) {
            log += "\n  " + call + " answered " + got + ", due is " + want + "\n";
        }
    }

    // ---- texts

    private int upTo(int most) {
        return random.nextInt(most + 1);
    }

    private String pick(String... all) {
        return all[random.nextInt(all.length)];
    }

    private String text() {
        StringBuilder s = new StringBuilder();
        int damp = random.nextBoolean() ? upTo(100) : pick("0", "50", "60", "100", "95", "5").length() * 20;
        s.append("chalet damp " + damp + " wood " + upTo(9) + " oil " + upTo(3) + " gust " + upTo(100));
        if (random.nextInt(3) > 0) {
            s.append(";weather wet " + upTo(30) + " fine " + upTo(30));
        }
        int vents = upTo(4);
        for (int i = 0; i < vents; i++) {
            s.append(";vent v" + letter(i) + " " + pick("wet", "fine") + " " + (1 + upTo(8)) + " costs " + upTo(20));
        }
        int plans = upTo(6);
        for (int i = 0; i < plans; i++) {
            s.append(";plan p" + letter(i) + " on " + upTo(random.nextBoolean() ? 5 : 20) + " " + pick("wet", "fine")
                    + " worth " + upTo(99));
        }
        saws(s);
        int fields = upTo(6);
        for (int i = 0; i < fields; i++) {
            s.append(";field f" + letter(i));
        }
        ditches(s, fields);
        return s.toString();
    }

    private void saws(StringBuilder s) {
        Set<Integer> days = new HashSet<>();
        int saws = upTo(5);
        for (int i = 0; i < saws; i++) {
            int day = upTo(20);
            if (days.add(day)) {
                s.append(";saw day " + day + " " + pick("none", "he", "she", "both", "he", "none"));
            }
        }
    }

    private void ditches(StringBuilder s, int fields) {
        Set<Integer> pairs = new HashSet<>();
        int ditches = fields < 2 ? 0 : upTo(9);
        for (int i = 0; i < ditches; i++) {
            int from = upTo(fields - 1);
            int to = upTo(fields - 1);
            if (from != to && pairs.add(from * 6 + to)) {
                s.append(";ditch f" + letter(from) + " f" + letter(to) + " carries " + (1 + upTo(random.nextBoolean() ? 5 : 98)));
            }
        }
    }

    private static char letter(int i) {
        return (char) ('a' + i);
    }

    /** A text with a few tokens dropped, doubled, changed or swapped, to meet faults of all sorts. */
    private String mangled(String text) {
        String[] tokens = text.replace(";", " ; ").trim().split(" +");
        int changes = 1 + upTo(2);
        for (int i = 0; i < changes; i++) {
            int at = random.nextInt(tokens.length);
            String other = tokens[random.nextInt(tokens.length)];
            tokens[at] = switch (random.nextInt(9)) {
                case 0 -> "";
                case 1 -> tokens[at] + " " + tokens[at];
                case 2 -> other;
                case 3 -> pick(NAMES);
                case 4 -> String.valueOf(upTo(1200));
                case 5 -> pick("chalet", "weather", "vent", "plan", "saw", "field", "ditch", "wet", "fine", "both");
                case 6 -> tokens[at] + pick("x", "7", ";", "A", "\u00e9", "-", "\t", "\0");
                case 7 -> ";" + line();
                default -> tokens[at] + ";" + line();
            };
        }
        String joined = String.join(random.nextInt(4) == 0 ? "  " : " ", tokens);
        String tight = random.nextBoolean() ? joined.replace(" ; ", ";") : joined;
        return random.nextInt(4) == 0 ? tight.substring(0, random.nextInt(tight.length() + 1)) : tight;
    }

    private String line() {
        return switch (random.nextInt(6)) {
            case 0 -> "vent " + pick(NAMES) + " wet 1 costs 1";
            case 1 -> "plan " + pick(NAMES) + " on 1 fine worth 1";
            case 2 -> "saw day " + upTo(21) + " he";
            case 3 -> "field " + pick(NAMES);
            case 4 -> "ditch f" + letter(upTo(6)) + " f" + letter(upTo(6)) + " carries " + upTo(100);
            default -> "weather wet " + upTo(31) + " fine " + upTo(31);
        };
    }

    private void load() {
        String text = random.nextInt(4) == 0 ? mangled(text()) : text();
        if (text.length() > 880) {
            return;
        }
        if (m.tape.length() + text.length() + 20 > 900 || !m.tape.isEmpty()) {
            same("chalet(0)", x.chalet(0), m.chalet(0));
        }
        byte[] bytes = text.getBytes(StandardCharsets.ISO_8859_1);
        Check.put(x, bytes);
        m.tape = text + " ".repeat((20 - bytes.length % 20) % 20);
        int n = random.nextInt(10) == 0 ? bytes.length - 3 + upTo(40) : bytes.length;
        log += "\n  chalet(" + n + ") of " + text;
        same("chalet()", x.chalet(n), m.chalet(n));
    }

    // ---- calls

    /** Mostly within the bounds, now and then just outside or far off. */
    private int about(int least, int most) {
        return switch (random.nextInt(14)) {
            case 0 -> least - 1;
            case 1 -> most + 1;
            case 2 -> least;
            case 3 -> most;
            case 4 -> random.nextInt(3) == 0 ? random.nextInt() : least;
            default -> least + random.nextInt(Math.max(1, most - least + 1));
        };
    }

    private static boolean in(int n, int least, int most) {
        return n >= least && n <= most;
    }

    private boolean none(boolean fits) {
        m.trouble = m.chalet == null ? 1 : fits ? 0 : 2;
        return m.trouble != 0;
    }

    private boolean lacks(boolean there) {
        m.trouble = m.chalet != null && there ? 0 : 1;
        return m.trouble != 0;
    }

    private void one() {
        int kind = random.nextInt(12);
        switch (kind) {
            case 0, 1, 2, 3 -> acts();
            case 4 -> nows();
            case 5 -> days();
            case 6 -> vents();
            case 7 -> makes();
            case 8 -> turns();
            case 9 -> floods();
            case 10 -> gusts();
            default -> told();
        }
    }

    private int vents0() {
        return m.chalet == null ? 0 : m.chalet.vents.size();
    }

    private int plans0() {
        return m.chalet == null ? 0 : m.chalet.plans.size();
    }

    private void nows() {
        int a = about(0, 5);
        switch (random.nextInt(5)) {
            case 0 -> {
                int want = -1;
                if (!lacks(in(a, 0, 5))) {
                    Model.Time t = m.now;
                    int last = t.past().isEmpty() ? 0 : t.past().get(t.day() - 1);
                    want = new int[] {t.angle() + 9, t.damp(), Model.who(t), t.oil(), last, Model.tenth(t.damp()) + 9}[a];
                }
                same("beam(" + a + ")", x.beam(a), want);
            }
            case 1 -> {
                int k = about(0, vents0() - 1);
                int w = about(0, 3);
                int want = -1;
                if (!lacks(in(k, 0, vents0() - 1) && in(w, 0, 3))) {
                    Model.Vent v = m.chalet.vents.get(k);
                    want = new int[] {v.weather(), v.by(), v.coins(), m.now.open().contains(k) ? 1 : 0}[w];
                }
                same("vent(" + k + ", " + w + ")", x.vent(k, w), want);
            }
            case 2 -> {
                int k = about(0, plans0() - 1);
                int w = about(0, 3);
                int want = -1;
                if (!lacks(in(k, 0, plans0() - 1) && in(w, 0, 3))) {
                    Model.Plan p = m.chalet.plans.get(k);
                    want = new int[] {p.day(), p.weather(), p.worth(), m.planKept(k) ? 1 : 0}[w];
                }
                same("plan(" + k + ", " + w + ")", x.plan(k, w), want);
            }
            case 3 -> {
                int d = about(0, 100);
                int want = none(in(d, 0, 100)) ? -1 : Model.most(d, m.chalet.wood, m.now.oil());
                same("goes(" + d + ")", x.goes(d), want);
            }
            default -> same("stays()", x.stays(), none(true) ? -1 : m.stays());
        }
    }

    private void days() {
        int n = about(0, 60);
        boolean fits = in(n, 0, 60);
        int who = about(0, 3);
        switch (random.nextInt(7)) {
            case 0 -> same("angleIn(" + n + ")", x.angleIn(n), none(fits) ? -1 : m.in(n).angle() + 9);
            case 1 -> same("dampIn(" + n + ")", x.dampIn(n), none(fits) ? -1 : m.in(n).damp());
            case 2 -> same("whoIn(" + n + ")", x.whoIn(n), none(fits) ? -1 : Model.who(m.in(n)));
            case 3 -> {
                int w = about(0, 2);
                same("daysOf(" + w + ", " + n + ")", x.daysOf(w, n), none(fits && in(w, 0, 2)) ? -1 : m.daysOf(w, n));
            }
            case 4 -> same("when(" + who + ")", x.when(who), none(in(who, 0, 3)) ? -1 : m.when(who));
            case 5 -> same("round()", x.round(), none(true) ? -1 : m.round());
            default -> same("kept(" + n + ")", x.kept(n), none(fits) ? -1 : m.kept(m.in(n), m.now.day()));
        }
    }

    private void vents() {
        int n = random.nextInt(4) == 0 ? about(1, 4) : about(1, 3);
        boolean fits = in(n, 1, 4);
        switch (random.nextInt(6)) {
            case 0 -> {
                int row = row(n);
                boolean ok = fits && m.chalet != null && m.picks(row, n) != null;
                same("worthOf(" + row + ", " + n + ")", x.worthOf(row, n), none(ok) ? -1 : m.worth(m.picks(row, n)) + 1000);
            }
            case 1 -> same("bestRow(" + n + ")", x.bestRow(n), none(fits) ? -1 : Model.number(m.best(n)));
            case 2 -> same("bestWorth(" + n + ")", x.bestWorth(n), none(fits) ? -1 : m.worth(m.best(n)) + 1000);
            case 3 -> {
                int[] row = none(fits) ? null : m.sure(n);
                same("sureRow(" + n + ")", x.sureRow(n), m.trouble != 0 ? -1 : row == null ? -2 : Model.number(row));
            }
            case 4 -> {
                int[] row = none(fits) ? null : m.sure(n);
                same("sureCoins(" + n + ")", x.sureCoins(n), m.trouble != 0 ? -1 : row == null ? -2 : m.coins(row));
            }
            default -> {
                int who = about(0, 3);
                same("rowFor(" + who + ", " + n + ")", x.rowFor(who, n), none(fits && in(who, 0, 3)) ? -1 : m.rowFor(who, n));
            }
        }
    }

    private int row(int n) {
        if (random.nextInt(5) == 0) {
            return random.nextInt(30000) - 1000;
        }
        int row = 0;
        for (int i = 0; i < n && i < 5; i++) {
            row = row * 10 + random.nextInt(vents0() + (random.nextInt(6) == 0 ? 2 : 1));
        }
        return row;
    }

    private void makes() {
        boolean oil = random.nextBoolean();
        switch (random.nextInt(7)) {
            case 0 -> same("makes()", x.makes(), none(true) ? -1 : m.makes().size());
            case 1 -> {
                int count = m.chalet == null ? 0 : m.makes().size();
                int i = about(0, count - 1);
                int want = lacks(in(i, 0, count - 1)) ? -1 : 10 * m.makes().get(i)[0] + m.makes().get(i)[1];
                same("makeAt(" + i + ")", x.makeAt(i), want);
            }
            case 2 -> same("could(" + oil + ")", x.could(oil), none(true) ? -1 : m.could(oil ? 1 : 0));
            case 3 -> same("surely(" + oil + ")", x.surely(oil), none(true) ? -1 : m.surely(oil ? 1 : 0));
            case 4 -> same("look()", x.look(), none(true) ? -1 : m.look()[0]);
            case 5 -> same("lookLeaves()", x.lookLeaves(), none(true) ? -1 : m.look()[1]);
            default -> same("judge()", x.judge(), none(true) ? -1 : m.judge());
        }
    }

    private void turns() {
        int n = about(0, 4);
        if (random.nextBoolean()) {
            same("value(" + n + ")", x.value(n), none(in(n, 0, 4)) ? -1 : m.value(m.now, 0, n) + 9);
        } else {
            same("opens(" + n + ")", x.opens(n), none(in(n, 1, 4)) ? -1 : m.opens(n));
        }
    }

    private void floods() {
        int ditches = m.chalet == null ? 0 : m.chalet.ditches.size();
        int fields = m.chalet == null ? 0 : m.chalet.fields.size();
        switch (random.nextInt(5)) {
            case 0 -> same("flood()", x.flood(), none(true) ? -1 : m.flood(m.carried()));
            case 1 -> same("cut()", x.cut(), none(true) ? -1 : m.cut());
            case 2 -> {
                int k = about(0, ditches - 1);
                int c = random.nextBoolean() ? about(0, 20) : about(0, 999);
                int want = lacks(in(k, 0, ditches - 1)) || none(in(c, 0, 999)) ? -1 : m.floodIf(k, c);
                same("floodIf(" + k + ", " + c + ")", x.floodIf(k, c), want);
            }
            case 3 -> same("narrow()", x.narrow(), none(true) ? -1 : m.narrow());
            default -> {
                int f = about(0, fields - 1);
                same("downhill(" + f + ")", x.downhill(f), lacks(in(f, 0, fields - 1)) ? -1 : m.downhill(f));
            }
        }
    }

    private void gusts() {
        int n = about(0, 6);
        int who = about(0, 3);
        int seed = about(0, 65536);
        int far = about(0, 60);
        boolean lower = random.nextBoolean();
        boolean draws = in(seed, 0, 65536) && in(far, 0, 60);
        switch (random.nextInt(4)) {
            case 0 -> same("likely(" + who + ", " + n + ", " + lower + ")", x.likely(who, n, lower),
                    none(in(n, 0, 6) && in(who, 0, 3)) ? -1 : m.likely(who, n, lower));
            case 1 -> same("mean(" + n + ", " + lower + ")", x.mean(n, lower), none(in(n, 0, 6)) ? -1 : m.mean(n, lower));
            case 2 -> same("gusted(" + seed + ", " + far + ")", x.gusted(seed, far),
                    none(draws) ? -1 : m.drawn(seed, far).angle() + 9);
            default -> same("wetIn(" + seed + ", " + far + ")", x.wetIn(seed, far), none(draws) ? -1
                    : m.drawn(seed, far).past().stream().skip(m.now.day()).filter(w -> w == 1).count());
        }
    }

    private void acts() {
        switch (random.nextInt(9)) {
            case 0, 1 -> {
                int k = about(0, vents0() - 1);
                boolean want = false;
                if (!lacks(in(k, 0, vents0() - 1))) {
                    if (m.now.open().contains(k)) {
                        m.trouble = 5;
                    } else {
                        Set<Integer> open = new HashSet<>(m.now.open());
                        open.add(k);
                        m.act(new Model.Time(m.now.angle(), m.now.damp(), m.now.oil(), open, m.now.past()));
                        want = true;
                    }
                }
                act("open(" + k + ")", x.open(k) ? 1 : 0, want ? 1 : 0);
            }
            case 2 -> oil();
            case 3, 4, 5 -> {
                int want = -1;
                if (!none(true)) {
                    m.act(m.pass(m.now));
                    want = m.now.past().get(m.now.day() - 1);
                }
                act("day()", x.day(), want);
            }
            case 6 -> {
                boolean want = !m.undos.isEmpty();
                m.trouble = want ? 0 : 6;
                if (want) {
                    m.now = m.undos.pop();
                }
                act("undo()", x.undo() ? 1 : 0, want ? 1 : 0);
            }
            case 7 -> {
                int want = -1;
                if (!none(true)) {
                    m.trouble = m.images.size() == 3 ? 3 : 0;
                    want = m.images.size() == 3 ? -1 : m.images.size();
                    if (want >= 0) {
                        m.images.add(m.now);
                    }
                }
                act("image()", x.image(), want);
            }
            default -> {
                int i = about(0, m.images.size() - 1);
                boolean want = !lacks(in(i, 0, m.images.size() - 1));
                if (want) {
                    m.now = m.images.get(i);
                    m.undos.clear();
                }
                act("back(" + i + ")", x.back(i) ? 1 : 0, want ? 1 : 0);
            }
        }
    }

    private void oil() {
        int want = -1;
        if (!none(true)) {
            if (m.now.oil() == 3) {
                m.trouble = 5;
            } else {
                m.act(new Model.Time(m.now.angle(), m.now.damp(), m.now.oil() + 1, m.now.open(), m.now.past()));
                want = m.now.oil();
            }
        }
        act("oil()", x.oil(), want);
    }

    private void act(String call, long got, long want) {
        log += "\n  " + call + " -> " + want;
        same(call, got, want);
    }

    private void told() {
        switch (random.nextInt(5)) {
            case 0 -> {
                int i = about(0, 2);
                same("led(" + i + ")", Check.led(x, i), m.led(i));
            }
            case 1 -> load();
            case 2 -> {
                boolean room = m.tape.length() <= 880;
                m.tape += room ? "abcdefghij klmnopqrs" : "";
                same("feed()", x.feed(0x61626364, 0x65666768, 0x696a206b, 0x6c6d6e6f, 0x70717273), room ? m.tape.length() : -1);
            }
            default -> {
                int what = about(0, 13);
                same("size(" + what + ")", x.size(what), m.size(what));
            }
        }
    }
}
