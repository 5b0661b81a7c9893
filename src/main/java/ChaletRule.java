import java.util.Arrays;
import java.util.NoSuchElementException;

/** A weather house: the beam in its chalet, what is to come of it, and what could be done about it. */
public final class ChaletRule {
    public static final int NONE = -1;

    /** The answer where a call is allowed and yet nothing fits. */
    private static final int NOTHING_FITS = -2;

    private static final int NOT_REFUSED = 0;
    private static final int NO_SUCH = 1;
    private static final int BAD_NUMBER = 2;
    private static final int NO_ROOM = 3;
    private static final int FAULTY = 4;
    private static final int NOT_SO = 5;
    private static final int NOTHING_LEFT = 6;

    private static final int STILL = 0;
    private static final int WET = 1;
    private static final int FINE = 2;

    private static final int NOBODY = 0;
    private static final int HE = 1;
    private static final int SHE = 2;
    private static final int BOTH = 3;

    private static final int FARTHEST = 9;
    private static final int DAMPEST = 100;
    private static final int MOST_WOOD = 9;
    private static final int MOST_OIL = 3;
    private static final int LAST_TOLD_DAY = 20;
    private static final int TOLD_DAYS = LAST_TOLD_DAY + 1;

    private static final int TAPE_ROOM = 900;
    private static final int BYTES_A_FEED = 20;
    private static final int DAYS_AHEAD = 60;
    private static final int ROW_DAYS = 4;
    private static final int GUST_DAYS = 6;
    private static final int LAST_SEED = 65536;
    private static final int MOST_CARRIED = 999;
    private static final int MOST_DAYS = 999;

    private static final int VENT_SIDE = 0;
    private static final int VENT_BY = 1;
    private static final int VENT_COINS = 2;
    private static final int PLAN_DAY = 0;
    private static final int PLAN_WEATHER = 1;
    private static final int PLAN_WORTH = 2;
    private static final int SAW_DAY = 0;
    private static final int SAW_WHO = 1;
    private static final int DITCH_FROM = 0;
    private static final int DITCH_TO = 1;
    private static final int DITCH_CARRIES = 2;

    private final Reader reader;
    private Told told;
    private boolean hasChalet;
    private int fault;
    private int faultPlace;
    private int refusal;
    private final Beam now;
    private final Past past;
    private final Forecast forecast;
    private final VentRows ventRows;
    private final Makes seenMakes;
    private final Gusts gusts;

    public ChaletRule() {
        reader = new Reader();
        told = new Told();
        now = new Beam();
        past = new Past();
        forecast = new Forecast();
        ventRows = new VentRows();
        seenMakes = new Makes();
        gusts = new Gusts();
    }

    // ---- the chalet

    public int feed(int a, int b, int c, int d, int e) {
        if (reader.tapeBytes > TAPE_ROOM - BYTES_A_FEED) {
            return NONE;
        }
        reader.putBytes(a);
        reader.putBytes(b);
        reader.putBytes(c);
        reader.putBytes(d);
        reader.putBytes(e);
        return reader.tapeBytes;
    }

    public int chalet(int n) {
        if (!within(n, 0, reader.tapeBytes)) {
            return refuse(BAD_NUMBER);
        }
        reader.begin(n);
        boolean whole = reader.readLines();
        fault = reader.fault;
        faultPlace = reader.place;
        if (!whole) {
            return refuse(FAULTY);
        }
        takeDraft();
        refusal = NOT_REFUSED;
        return told.vents.count;
    }

    public int fault() {
        return fault;
    }

    public int where() {
        return refusal == FAULTY ? faultPlace : NONE;
    }

    // ---- now

    public int beam(int what) {
        if (lacks(within(what, 0, 5))) {
            return NONE;
        }
        switch (what) {
            case 0:
                return now.angle + FARTHEST;
            case 1:
                return now.damp;
            case 2:
                return now.whoIsOut();
            case 3:
                return now.oil;
            case 4:
                return now.weather;
            default:
                return Beam.pullOfDamp(now.damp) + FARTHEST;
        }
    }

    public int vent(int k, int what) {
        if (lacks(told.vents.holds(k) && within(what, 0, 3))) {
            return NONE;
        }
        return what == 3 ? (now.isOpen(k) ? 1 : 0) : told.vents.cell(k, what);
    }

    public int plan(int k, int what) {
        if (lacks(told.plans.holds(k) && within(what, 0, 3))) {
            return NONE;
        }
        return what == 3 ? (forecast.keeps(told, now, k) ? 1 : 0) : told.plans.cell(k, what);
    }

    public int goes(int damp) {
        return refused(within(damp, 0, DAMPEST)) ? NONE : now.reach(damp);
    }

    public int stays() {
        if (refused(true)) {
            return NONE;
        }
        int least = NONE;
        int most = NONE;
        for (int damp = 0; damp <= DAMPEST; damp++) {
            if (now.turned(Beam.pullOfDamp(damp), damp) == now.angle) {
                least = least == NONE ? damp : least;
                most = damp;
            }
        }
        return least == NONE ? NOTHING_FITS : 1000 * least + most;
    }

    // ---- days to come

    public int angleIn(int n) {
        return refused(within(n, 0, DAYS_AHEAD)) ? NONE : forecast.behind(told, now, n).angle + FARTHEST;
    }

    public int dampIn(int n) {
        return refused(within(n, 0, DAYS_AHEAD)) ? NONE : forecast.behind(told, now, n).damp;
    }

    public int whoIn(int n) {
        return refused(within(n, 0, DAYS_AHEAD)) ? NONE : forecast.behind(told, now, n).whoIsOut();
    }

    public int daysOf(int weather, int n) {
        boolean fits = within(weather, STILL, FINE) && within(n, 0, DAYS_AHEAD);
        return refused(fits) ? NONE : forecast.daysWith(told, now, weather, n);
    }

    public int when(int who) {
        return refused(within(who, NOBODY, BOTH)) ? NONE : forecast.daysUntil(told, now, who);
    }

    public int round() {
        return refused(true) ? NONE : forecast.goesRound(told, now);
    }

    public int kept(int n) {
        if (refused(within(n, 0, DAYS_AHEAD))) {
            return NONE;
        }
        return told.worthKept(forecast.behind(told, now, n), now.days);
    }

    // ---- vents

    public int worthOf(int row, int n) {
        boolean fits = within(n, 1, ROW_DAYS) && ventRows.take(row, n, told.vents.count);
        return refused(fits) ? NONE : ventRows.worth(told, now, n) + 1000;
    }

    public int bestRow(int n) {
        if (refused(within(n, 1, ROW_DAYS))) {
            return NONE;
        }
        ventRows.search(told, now, n, VentRows.MOST_WORTH);
        return ventRows.foundRow;
    }

    public int bestWorth(int n) {
        if (refused(within(n, 1, ROW_DAYS))) {
            return NONE;
        }
        ventRows.search(told, now, n, VentRows.MOST_WORTH);
        return ventRows.foundScore + 1000;
    }

    public int sureRow(int n) {
        if (refused(within(n, 1, ROW_DAYS))) {
            return NONE;
        }
        ventRows.search(told, now, n, VentRows.ALL_KEPT);
        return ventRows.foundRow;
    }

    public int sureCoins(int n) {
        if (refused(within(n, 1, ROW_DAYS))) {
            return NONE;
        }
        ventRows.search(told, now, n, VentRows.ALL_KEPT);
        return ventRows.foundRow == NOTHING_FITS ? NOTHING_FITS : -ventRows.foundScore;
    }

    public int rowFor(int who, int n) {
        if (refused(within(who, NOBODY, BOTH) && within(n, 1, ROW_DAYS))) {
            return NONE;
        }
        ventRows.search(told, now, n, who);
        return ventRows.foundRow;
    }

    // ---- makes

    public int makes() {
        return refused(true) ? NONE : gathered().count;
    }

    public int makeAt(int i) {
        return lacks(hasChalet && within(i, 0, gathered().count - 1)) ? NONE : seenMakes.nameOf(i);
    }

    public int could(boolean oil) {
        return refused(true) ? NONE : gathered().bitsOf(oil);
    }

    public int surely(boolean oil) {
        return refused(true) ? NONE : gathered().onlyOne(oil);
    }

    public int look() {
        if (refused(true)) {
            return NONE;
        }
        gathered().chooseDay(told);
        return seenMakes.chosenDay;
    }

    public int lookLeaves() {
        if (refused(true)) {
            return NONE;
        }
        gathered().chooseDay(told);
        return seenMakes.leftAtMost;
    }

    public int judge() {
        return refused(true) ? NONE : seenMakes.firstUnlike(told);
    }

    // ---- a junior, a step

    public int value(int n) {
        return refused(within(n, 0, ROW_DAYS)) ? NONE : ventRows.played(told, now, n) + FARTHEST;
    }

    public int opens(int n) {
        return refused(within(n, 1, ROW_DAYS)) ? NONE : ventRows.firstOpened(told, now, n);
    }

    // ---- floods

    public int flood() {
        return refused(true) ? NONE : Floods.most(told, NONE, 0);
    }

    public int cut() {
        if (refused(true)) {
            return NONE;
        }
        return told.fields < 2 ? NOTHING_FITS : Floods.leastSide(told, NONE, 0);
    }

    public int floodIf(int k, int carries) {
        if (lacks(told.ditches.holds(k)) || refused(within(carries, 0, MOST_CARRIED))) {
            return NONE;
        }
        return Floods.most(told, k, carries);
    }

    public int narrow() {
        return refused(true) ? NONE : Floods.narrowDitches(told);
    }

    public int downhill(int f) {
        return lacks(within(f, 0, told.fields - 1)) ? NONE : Floods.reachedFrom(told, f);
    }

    // ---- gusts

    public long likely(int who, int n, boolean lower) {
        if (refused(within(who, NOBODY, BOTH) && within(n, 0, GUST_DAYS))) {
            return NONE;
        }
        gusts.weigh(told, now, n, who);
        return lower ? gusts.lower : gusts.upper;
    }

    public long mean(int n, boolean lower) {
        if (refused(within(n, 0, GUST_DAYS))) {
            return NONE;
        }
        gusts.weigh(told, now, n, Gusts.ANGLES);
        return lower ? gusts.lower : gusts.upper;
    }

    public int gusted(int seed, int n) {
        if (refused(within(seed, 0, LAST_SEED) && within(n, 0, DAYS_AHEAD))) {
            return NONE;
        }
        gusts.draw(told, now, seed, n);
        return gusts.walk.angle + FARTHEST;
    }

    public int wetIn(int seed, int n) {
        if (refused(within(seed, 0, LAST_SEED) && within(n, 0, DAYS_AHEAD))) {
            return NONE;
        }
        gusts.draw(told, now, seed, n);
        return gusts.wetDays;
    }

    // ---- acts

    public boolean open(int k) {
        if (lacks(told.vents.holds(k))) {
            return false;
        }
        if (now.isOpen(k)) {
            refusal = NOT_SO;
            return false;
        }
        past.keep(now);
        now.openVent(k);
        return true;
    }

    public int oil() {
        if (refused(true)) {
            return NONE;
        }
        if (now.oil >= MOST_OIL) {
            return refuse(NOT_SO);
        }
        past.keep(now);
        now.oil++;
        return now.oil;
    }

    public int day() {
        if (refused(true)) {
            return NONE;
        }
        if (now.days >= MOST_DAYS) {
            return refuse(NO_ROOM);
        }
        past.keep(now);
        now.passDay(told);
        return now.weather;
    }

    public boolean undo() {
        boolean undone = past.takeBack(now);
        refusal = undone ? NOT_REFUSED : NOTHING_LEFT;
        return undone;
    }

    public int image() {
        if (refused(true)) {
            return NONE;
        }
        int number = past.paint(now);
        return number == NONE ? refuse(NO_ROOM) : number;
    }

    public boolean back(int image) {
        return !lacks(past.recall(image, now));
    }

    // ---- what is told

    public int led(int i) throws NoSuchElementException {
        int left = i;
        for (int k = 0; k < told.plans.count; k++) {
            if (told.isKept(k, now)) {
                if (left == 0) {
                    return k;
                }
                left--;
            }
        }
        throw new NoSuchElementException("no such plan was kept");
    }

    public int size(int what) {
        switch (what) {
            case 0:
                return told.wood;
            case 1:
                return told.oil;
            case 2:
                return told.gust;
            case 3:
                return told.wet;
            case 4:
                return told.fine;
            case 5:
                return told.vents.count;
            case 6:
                return told.plans.count;
            case 7:
                return told.saws.count;
            case 8:
                return told.fields;
            case 9:
                return told.ditches.count;
            case 10:
                return now.days;
            case 11:
                return past.acts;
            case 12:
                return past.images;
            case 13:
                return reader.tapeBytes;
            default:
                return NONE;
        }
    }

    public int trouble() {
        return refusal;
    }

    // ---- what the calls share

    private static boolean within(int number, int least, int most) {
        return number >= least && number <= most;
    }

    private int refuse(int number) {
        refusal = number;
        return NONE;
    }

    /** Settles TROUBLE for a call that wants a CHALET first and its numbers in bounds then. */
    private boolean refused(boolean numbersFit) {
        if (!hasChalet) {
            refusal = NO_SUCH;
        } else {
            refusal = numbersFit ? NOT_REFUSED : BAD_NUMBER;
        }
        return refusal != NOT_REFUSED;
    }

    /** Settles TROUBLE for a call that asks for one thing of a CHALET, which may not be there. */
    private boolean lacks(boolean thereIsOne) {
        refusal = hasChalet && thereIsOne ? NOT_REFUSED : NO_SUCH;
        return refusal != NOT_REFUSED;
    }

    private Makes gathered() {
        seenMakes.gather(told);
        return seenMakes;
    }

    /** The old CHALET's object is the reader's next draft, so that reading makes nothing new. */
    private void takeDraft() {
        Told old = told;
        told = reader.draft;
        reader.draft = old;
        hasChalet = true;
        now.begin(told.damp, told.wood, told.oil);
        past.forget();
        seenMakes.forget();
    }

    /** Rows of whole numbers, of a room that is set once. */
    static final class Table {
        final int room;
        final int width;
        final int[] cells;
        int count;

        Table(int room, int width) {
            this.room = room > 0 ? room : 0;
            this.width = width > 0 ? width : 0;
            this.cells = new int[this.room * this.width];
        }

        boolean isFull() {
            return count >= room;
        }

        boolean holds(int row) {
            return row >= 0 && row < count;
        }

        int cell(int row, int column) {
            int at = row * width + column;
            boolean there = holds(row) && column >= 0 && column < width;
            return there && at >= 0 && at < cells.length ? cells[at] : 0;
        }

        /** The row behind the last one, which counts only when it is closed. */
        void put(int column, int number) {
            int at = count * width + column;
            if (column >= 0 && column < width && at >= 0 && at < cells.length) {
                cells[at] = number;
            }
        }

        void closeRow() {
            if (count < room) {
                count++;
            }
        }
    }

    /** What a text told. */
    static final class Told {
        int damp;
        int wood;
        int oil;
        int gust;
        int wet;
        int fine;
        int fields;
        final Table vents = new Table(4, 3);
        final Table plans = new Table(6, 3);
        final Table saws = new Table(5, 2);
        final Table ditches = new Table(9, 3);

        /** As a text finds it: 10 each is the weather of a CHALET that tells none. */
        void clear() {
            damp = 0;
            wood = 0;
            oil = 0;
            gust = 0;
            wet = 10;
            fine = 10;
            fields = 0;
            vents.count = 0;
            plans.count = 0;
            saws.count = 0;
            ditches.count = 0;
        }

        int pullOfVents(int openVents) {
            int pull = 0;
            for (int k = 0; k < vents.count; k++) {
                if ((openVents >> k & 1) == 1) {
                    int by = vents.cell(k, VENT_BY);
                    pull += vents.cell(k, VENT_SIDE) == WET ? by : -by;
                }
            }
            return pull;
        }

        /** Whether a plan's DAY went by ahead of a beam, and was as the plan wants it. */
        boolean isKept(int k, Beam beam) {
            return beam.had(plans.cell(k, PLAN_DAY), plans.cell(k, PLAN_WEATHER));
        }

        /** Worths of the plans KEPT of the DAYS from one on that went by ahead of a beam. */
        int worthKept(Beam beam, int fromDay) {
            int worth = 0;
            for (int k = 0; k < plans.count; k++) {
                if (plans.cell(k, PLAN_DAY) >= fromDay && isKept(k, beam)) {
                    worth += plans.cell(k, PLAN_WORTH);
                }
            }
            return worth;
        }

        boolean keptAll(Beam beam, int fromDay) {
            for (int k = 0; k < plans.count; k++) {
                int day = plans.cell(k, PLAN_DAY);
                if (day >= fromDay && day < beam.days && !isKept(k, beam)) {
                    return false;
                }
            }
            return true;
        }

        boolean hasDitch(int from, int to) {
            for (int k = 0; k < ditches.count; k++) {
                if (ditches.cell(k, DITCH_FROM) == from && ditches.cell(k, DITCH_TO) == to) {
                    return true;
                }
            }
            return false;
        }

        boolean sawOn(int day) {
            for (int k = 0; k < saws.count; k++) {
                if (saws.cell(k, SAW_DAY) == day) {
                    return true;
                }
            }
            return false;
        }
    }

    /** Holds THE TAPE, and reads a text from it, TOKEN by TOKEN, until its end or its first FAULT. */
    static final class Reader {
        private static final int FORM = 1;
        private static final int UNTOLD = 2;
        private static final int AGAIN = 3;
        private static final int OUT_OF_BOUNDS = 4;
        private static final int MANY = 5;
        private static final int LACKING = 6;

        private static final int END = 0;
        private static final int WORD = 1;
        private static final int WHOLE = 2;
        private static final int PARTING = 3;
        private static final int NO_TOKEN = 4;

        private static final int MOST_FIELDS = 6;
        private static final int LONGEST_WORD = 8;
        private static final int LONGEST_WHOLE = 3;

        int fault;
        int place;
        int tapeBytes;
        Told draft = new Told();
        private final byte[] tape = new byte[TAPE_ROOM];
        private int length;
        private int at;
        private int tokenKind;
        private int tokenPlace;
        private long tokenWord;
        private int tokenWhole;
        private boolean weatherTold;
        private int fieldFound;
        private final long[] names = new long[16];
        private final int[] fieldsByName = new int[16];
        private int namesTold;

        void putBytes(int four) {
            for (int shift = 24; shift >= 0 && tapeBytes < tape.length; shift -= 8) {
                tape[tapeBytes] = (byte) (four >>> shift);
                tapeBytes++;
            }
        }

        /** The bytes of the text stay where they are until others come. */
        void begin(int bytes) {
            length = Math.min(bytes, tape.length);
            tapeBytes = 0;
            draft.clear();
            at = 0;
            fault = 0;
            place = NONE;
            weatherTold = false;
            namesTold = 0;
        }

        /** A LINE takes a byte at least, so no text has more of them than bytes. */
        boolean readLines() {
            for (int lines = 0; lines <= TAPE_ROOM; lines++) {
                if (!readLine(lines == 0)) {
                    return false;
                }
                nextToken();
                if (tokenKind == END) {
                    return true;
                }
                if (tokenKind != PARTING) {
                    return fails(FORM);
                }
            }
            return fails(FORM);
        }

        private boolean readLine(boolean first) {
            nextToken();
            if (!beginsLine()) {
                return fails(FORM);
            }
            if (isWord("chalet")) {
                return first ? readChalet() : fails(AGAIN);
            }
            if (first) {
                return fails(LACKING);
            }
            if (isWord("weather")) {
                return weatherTold ? fails(AGAIN) : readWeather();
            }
            if (isWord("vent")) {
                return draft.vents.isFull() ? fails(MANY) : readVent();
            }
            if (isWord("plan")) {
                return draft.plans.isFull() ? fails(MANY) : readPlan();
            }
            if (isWord("saw")) {
                return draft.saws.isFull() ? fails(MANY) : readSaw();
            }
            if (isWord("field")) {
                return draft.fields >= MOST_FIELDS ? fails(MANY) : readField();
            }
            return draft.ditches.isFull() ? fails(MANY) : readDitch();
        }

        private boolean readChalet() {
            if (!wants("damp") || !wantsWhole(0, DAMPEST)) {
                return false;
            }
            draft.damp = tokenWhole;
            if (!wants("wood") || !wantsWhole(0, MOST_WOOD)) {
                return false;
            }
            draft.wood = tokenWhole;
            if (!wants("oil") || !wantsWhole(0, MOST_OIL)) {
                return false;
            }
            draft.oil = tokenWhole;
            if (!wants("gust") || !wantsWhole(0, 100)) {
                return false;
            }
            draft.gust = tokenWhole;
            return true;
        }

        private boolean readWeather() {
            weatherTold = true;
            if (!wants("wet") || !wantsWhole(0, 30)) {
                return false;
            }
            draft.wet = tokenWhole;
            if (!wants("fine") || !wantsWhole(0, 30)) {
                return false;
            }
            draft.fine = tokenWhole;
            return true;
        }

        private boolean readVent() {
            return wantsNewName(NONE)
                    && wantsWeather(draft.vents, VENT_SIDE)
                    && wantsCell(draft.vents, VENT_BY, 1, 9)
                    && wants("costs")
                    && wantsCell(draft.vents, VENT_COINS, 0, 99)
                    && closes(draft.vents);
        }

        private boolean readPlan() {
            return wantsNewName(NONE)
                    && wants("on")
                    && wantsCell(draft.plans, PLAN_DAY, 0, LAST_TOLD_DAY)
                    && wantsWeather(draft.plans, PLAN_WEATHER)
                    && wants("worth")
                    && wantsCell(draft.plans, PLAN_WORTH, 0, 99)
                    && closes(draft.plans);
        }

        private boolean readSaw() {
            if (!wants("day") || !wantsCell(draft.saws, SAW_DAY, 0, LAST_TOLD_DAY)) {
                return false;
            }
            if (draft.sawOn(tokenWhole)) {
                return fails(AGAIN);
            }
            return wantsWho() && closes(draft.saws);
        }

        private boolean readField() {
            if (!wantsNewName(draft.fields)) {
                return false;
            }
            draft.fields++;
            return true;
        }

        private boolean readDitch() {
            if (!wantsField()) {
                return false;
            }
            int from = fieldFound;
            if (!wantsField()) {
                return false;
            }
            if (fieldFound == from || draft.hasDitch(from, fieldFound)) {
                return fails(AGAIN);
            }
            draft.ditches.put(DITCH_FROM, from);
            draft.ditches.put(DITCH_TO, fieldFound);
            return wants("carries") && wantsCell(draft.ditches, DITCH_CARRIES, 1, 99) && closes(draft.ditches);
        }

        private boolean fails(int number) {
            fault = number;
            place = tokenPlace;
            return false;
        }

        private boolean wants(String word) {
            nextToken();
            return isWord(word) || fails(FORM);
        }

        private boolean wantsWhole(int least, int most) {
            nextToken();
            if (tokenKind != WHOLE) {
                return fails(FORM);
            }
            return within(tokenWhole, least, most) || fails(OUT_OF_BOUNDS);
        }

        private boolean wantsCell(Table table, int column, int least, int most) {
            if (!wantsWhole(least, most)) {
                return false;
            }
            table.put(column, tokenWhole);
            return true;
        }

        private boolean closes(Table table) {
            table.closeRow();
            return true;
        }

        private boolean wantsWeather(Table table, int column) {
            nextToken();
            if (!isWord("wet") && !isWord("fine")) {
                return fails(FORM);
            }
            table.put(column, isWord("wet") ? WET : FINE);
            return true;
        }

        private boolean wantsWho() {
            nextToken();
            int who = isWord("none") ? NOBODY : isWord("he") ? HE : isWord("she") ? SHE : isWord("both") ? BOTH : NONE;
            if (who == NONE) {
                return fails(FORM);
            }
            draft.saws.put(SAW_WHO, who);
            return true;
        }

        /** Vents, plans and fields share their NAMES; only a field's can be used later on. */
        private boolean wantsNewName(int field) {
            nextToken();
            if (tokenKind != WORD || beginsLine()) {
                return fails(FORM);
            }
            if (nameNumber() != NONE) {
                return fails(AGAIN);
            }
            if (namesTold < names.length && namesTold < fieldsByName.length) {
                names[namesTold] = tokenWord;
                fieldsByName[namesTold] = field;
                namesTold++;
            }
            return true;
        }

        private boolean wantsField() {
            nextToken();
            if (tokenKind != WORD || beginsLine()) {
                return fails(FORM);
            }
            int number = nameNumber();
            fieldFound = number >= 0 && number < fieldsByName.length ? fieldsByName[number] : NONE;
            return fieldFound != NONE || fails(UNTOLD);
        }

        private int nameNumber() {
            for (int i = 0; i < namesTold && i < names.length; i++) {
                if (names[i] == tokenWord) {
                    return i;
                }
            }
            return NONE;
        }

        private boolean beginsLine() {
            return isWord("chalet") || isWord("weather") || isWord("vent") || isWord("plan")
                    || isWord("saw") || isWord("field") || isWord("ditch");
        }

        private boolean isWord(String word) {
            if (tokenKind != WORD) {
                return false;
            }
            long packed = 0;
            for (int i = 0; i < word.length(); i++) {
                packed = packed * 32 + (word.charAt(i) - 'a' + 1);
            }
            return packed == tokenWord;
        }

        private void nextToken() {
            while (at < length && tape[at] == ' ') {
                at++;
            }
            tokenPlace = at;
            if (at >= length) {
                tokenKind = END;
            } else if (tape[at] == ';') {
                tokenKind = PARTING;
                at++;
            } else if (tape[at] >= '0' && tape[at] <= '9') {
                takeWhole();
            } else {
                takeWord();
            }
        }

        /** Letters that stand together are one WORD or, too many, none: five bits a letter tell them apart. */
        private void takeWord() {
            tokenWord = 0;
            while (at < length && tape[at] >= 'a' && tape[at] <= 'z') {
                tokenWord = tokenWord * 32 + (tape[at] - 'a' + 1);
                at++;
            }
            int letters = at - tokenPlace;
            tokenKind = letters >= 1 && letters <= LONGEST_WORD ? WORD : NO_TOKEN;
        }

        private void takeWhole() {
            tokenWhole = 0;
            while (at < length && tape[at] >= '0' && tape[at] <= '9') {
                tokenWhole = tokenWhole * 10 + (tape[at] - '0');
                at++;
            }
            tokenKind = at - tokenPlace <= LONGEST_WHOLE ? WHOLE : NO_TOKEN;
        }
    }

    /** The chalet at one time; what is to come is found by days that go by on a copy. */
    static final class Beam {
        int angle;
        int damp;
        int wood;
        int oil;
        int openVents;
        int weather;
        int days;
        int wetDays;
        int fineDays;

        void begin(int toldDamp, int ofWood, int ofOil) {
            angle = 0;
            damp = toldDamp;
            wood = ofWood;
            oil = ofOil;
            openVents = 0;
            weather = STILL;
            days = 0;
            wetDays = 0;
            fineDays = 0;
        }

        void copy(Beam other) {
            angle = other.angle;
            damp = other.damp;
            wood = other.wood;
            oil = other.oil;
            openVents = other.openVents;
            weather = other.weather;
            days = other.days;
            wetDays = other.wetDays;
            fineDays = other.fineDays;
        }

        int whoIsOut() {
            int far = 3 - oil;
            return (angle >= far ? HE : NOBODY) + (-angle >= far ? SHE : NOBODY);
        }

        boolean isOpen(int k) {
            return (openVents >> k & 1) == 1;
        }

        /** A vent that is open already stays so: it pulls once. */
        void openVent(int k) {
            openVents |= 1 << k;
        }

        static int pullOfDamp(int someDamp) {
            return (someDamp - 50) / 10;
        }

        /** Swollen wood holds the beam back by one. */
        int reach(int someDamp) {
            int most = 1 + oil;
            return someDamp >= DAMPEST - 10 * wood ? Math.max(0, most - 1) : most;
        }

        int turned(int pull, int someDamp) {
            int most = reach(someDamp);
            int aim = Math.max(-FARTHEST, Math.min(FARTHEST, pull));
            return angle + Math.max(-most, Math.min(most, aim - angle));
        }

        void passDay(Told told) {
            int who = whoIsOut();
            weather = who == HE ? WET : who == SHE ? FINE : STILL;
            if (weather == WET) {
                damp = Math.min(DAMPEST, damp + told.wet);
            } else if (weather == FINE) {
                damp = Math.max(0, damp - told.fine);
            }
            noteWeather();
            angle = turned(pullOfDamp(damp) + told.pullOfVents(openVents), damp);
            openVents = 0;
            days++;
        }

        /** No plan asks for a later DAY, so the first ones alone are remembered. */
        private void noteWeather() {
            if (days <= LAST_TOLD_DAY) {
                wetDays |= weather == WET ? 1 << days : 0;
                fineDays |= weather == FINE ? 1 << days : 0;
            }
        }

        boolean had(int day, int wanted) {
            if (day < 0 || day >= days || day > LAST_TOLD_DAY) {
                return false;
            }
            int bits = wanted == WET ? wetDays : fineDays;
            return (bits >> day & 1) == 1;
        }

        void gust() {
            angle = Math.min(FARTHEST, angle + 1);
        }
    }

    /** Days to come, without gusts, with the vents that are open NOW. */
    static final class Forecast {
        private static final int ANGLES = 2 * FARTHEST + 1;
        private static final int STATES = ANGLES * (DAMPEST + 1);

        private final Beam walk = new Beam();
        private final int[] firstBehind = new int[STATES];

        Beam behind(Told told, Beam now, int n) {
            walk.copy(now);
            for (int i = 0; i < n; i++) {
                walk.passDay(told);
            }
            return walk;
        }

        boolean keeps(Told told, Beam now, int plan) {
            int daysTo = told.plans.cell(plan, PLAN_DAY) + 1 - now.days;
            return told.isKept(plan, behind(told, now, daysTo));
        }

        int daysWith(Told told, Beam now, int weather, int n) {
            int count = 0;
            walk.copy(now);
            for (int i = 0; i < n; i++) {
                walk.passDay(told);
                count += walk.weather == weather ? 1 : 0;
            }
            return count;
        }

        int daysUntil(Told told, Beam now, int who) {
            walk.copy(now);
            for (int i = 0; i <= DAYS_AHEAD; i++) {
                if (walk.whoIsOut() == who) {
                    return i;
                }
                walk.passDay(told);
            }
            return NOTHING_FITS;
        }

        /** NOW itself does not count: its vents are not open again when the beam comes back to it. */
        int goesRound(Told told, Beam now) {
            Arrays.fill(firstBehind, 0);
            walk.copy(now);
            for (int i = 1; i <= STATES + 1; i++) {
                walk.passDay(told);
                int state = (walk.angle + FARTHEST) * (DAMPEST + 1) + walk.damp;
                if (state < 0 || state >= STATES) {
                    return NOTHING_FITS;
                }
                if (firstBehind[state] > 0) {
                    return 10000 * i + i - firstBehind[state];
                }
                firstBehind[state] = i;
            }
            return NOTHING_FITS;
        }
    }

    /** Vents opened day by day: rows of them, and the junior's and the step's turns. */
    static final class VentRows {
        /** What a search wants; WHO is out at the end is wanted by its own number, 0 to 3. */
        static final int MOST_WORTH = 4;
        static final int ALL_KEPT = 5;

        private static final int UNFIT = Integer.MIN_VALUE;

        int foundRow;
        int foundScore;
        private final int[] picks = new int[ROW_DAYS];
        private final int[] coins = new int[ROW_DAYS + 1];
        private final Beam[] behind = new Beam[ROW_DAYS + 1];

        VentRows() {
            for (int i = 0; i < behind.length; i++) {
                behind[i] = new Beam();
            }
        }

        /** Takes a row by its digits; false if it isn't one of n DAYS and so many vents. */
        boolean take(int row, int n, int vents) {
            int left = row;
            for (int i = n - 1; i >= 0 && i < picks.length; i--) {
                picks[i] = left % 10;
                if (picks[i] < 0 || picks[i] > vents) {
                    return false;
                }
                left /= 10;
            }
            return left == 0;
        }

        int worth(Told told, Beam now, int n) {
            behind[0].copy(now);
            follow(told, 0, n);
            return scoreOf(told, now, n, MOST_WORTH);
        }

        /** Rows come in their order, so the first one of the best score stays. */
        void search(Told told, Beam now, int n, int aim) {
            foundRow = NOTHING_FITS;
            foundScore = UNFIT;
            behind[0].copy(now);
            Arrays.fill(picks, 0);
            int rows = rowsOf(n, told.vents.count);
            int changed = 0;
            for (int i = 0; i < rows; i++) {
                follow(told, changed, n);
                int score = scoreOf(told, now, n, aim);
                if (score > foundScore) {
                    foundScore = score;
                    foundRow = digits(n);
                }
                changed = nextRow(n, told.vents.count);
            }
        }

        /** What came ahead of the first changed pick still stands from the row before. */
        private void follow(Told told, int changed, int n) {
            for (int i = changed; i < n && i < ROW_DAYS; i++) {
                coins[i + 1] = coins[i] + told.vents.cell(picks[i] - 1, VENT_COINS);
                passTurn(told, i, picks[i]);
            }
        }

        private void passTurn(Told told, int turn, int pick) {
            if (!within(turn, 0, ROW_DAYS - 1)) {
                return;
            }
            Beam next = behind[turn + 1];
            next.copy(behind[turn]);
            if (pick > 0) {
                next.openVent(pick - 1);
            }
            next.passDay(told);
        }

        private int scoreOf(Told told, Beam now, int n, int aim) {
            if (!within(n, 0, ROW_DAYS)) {
                return UNFIT;
            }
            Beam end = behind[n];
            if (aim == MOST_WORTH) {
                return told.worthKept(end, now.days) - coins[n];
            }
            if (aim == ALL_KEPT) {
                return told.keptAll(end, now.days) ? -coins[n] : UNFIT;
            }
            return end.whoIsOut() == aim ? -opened(n) : UNFIT;
        }

        private int opened(int n) {
            int count = 0;
            for (int i = 0; i < n && i < picks.length; i++) {
                count += picks[i] > 0 ? 1 : 0;
            }
            return count;
        }

        private int digits(int n) {
            int row = 0;
            for (int i = 0; i < n && i < picks.length; i++) {
                row = 10 * row + picks[i];
            }
            return row;
        }

        private static int rowsOf(int n, int vents) {
            int rows = 1;
            for (int i = 0; i < n; i++) {
                rows *= vents + 1;
            }
            return rows;
        }

        /** Goes on to the row behind: the DAY from which on it is another one. */
        private int nextRow(int n, int vents) {
            for (int i = n - 1; i >= 0 && i < picks.length; i--) {
                if (picks[i] < vents) {
                    picks[i]++;
                    return i;
                }
                picks[i] = 0;
            }
            return 0;
        }

        /** The ANGLE behind n DAYS of turns, both playing best. */
        int played(Told told, Beam now, int n) {
            behind[0].copy(now);
            return bestFrom(this, told, 0, n);
        }

        /** It calls itself, so it is static, and the turn that it is at ends it. */
        private static int bestFrom(VentRows rows, Told told, int turn, int n) {
            if (turn >= n || turn >= ROW_DAYS) {
                return rows.behind[within(turn, 0, ROW_DAYS) ? turn : 0].angle;
            }
            boolean junior = turn % 2 == 0;
            int best = junior ? -FARTHEST : FARTHEST;
            for (int pick = 0; pick <= told.vents.count; pick++) {
                rows.passTurn(told, turn, pick);
                int angle = bestFrom(rows, told, turn + 1, n);
                best = junior ? Math.max(best, angle) : Math.min(best, angle);
            }
            return best;
        }

        int firstOpened(Told told, Beam now, int n) {
            behind[0].copy(now);
            int vent = NOTHING_FITS;
            int best = -FARTHEST - 1;
            for (int pick = 0; pick <= told.vents.count; pick++) {
                passTurn(told, 0, pick);
                int angle = bestFrom(this, told, 1, n);
                if (angle > best) {
                    best = angle;
                    vent = pick == 0 ? NOTHING_FITS : pick - 1;
                }
            }
            return vent;
        }
    }

    /** Which wood and oil it is, by what was seen. */
    static final class Makes {
        private static final int OILS = MOST_OIL + 1;
        private static final int ALL = (MOST_WOOD + 1) * OILS;

        int count;
        int chosenDay;
        int leftAtMost;
        private final int[] fitting = new int[ALL];
        private boolean gathered;
        private final Beam walk = new Beam();
        private final int[] outBehind = new int[TOLD_DAYS];
        private final int[] counts = new int[TOLD_DAYS * (BOTH + 1)];

        void forget() {
            gathered = false;
            count = 0;
        }

        int nameOf(int i) {
            return i >= 0 && i < count && i < fitting.length ? fitting[i] / OILS * 10 + fitting[i] % OILS : NONE;
        }

        int bitsOf(boolean oil) {
            int bits = 0;
            for (int i = 0; i < count && i < fitting.length; i++) {
                bits |= 1 << (oil ? fitting[i] % OILS : fitting[i] / OILS);
            }
            return bits;
        }

        int onlyOne(boolean oil) {
            int bits = bitsOf(oil);
            for (int number = 0; number <= MOST_WOOD; number++) {
                if (bits == 1 << number) {
                    return number;
                }
            }
            return NOTHING_FITS;
        }

        void chooseDay(Told told) {
            countOuts(told);
            chosenDay = NOTHING_FITS;
            leftAtMost = NOTHING_FITS;
            for (int day = 0; day < TOLD_DAYS && count > 0; day++) {
                int left = mostOf(day);
                if (chosenDay == NOTHING_FITS || left < leftAtMost) {
                    chosenDay = day;
                    leftAtMost = left;
                }
            }
        }

        int firstUnlike(Told told) {
            watch(told, told.wood, told.oil);
            return unlikeSeen(told);
        }

        /** Only the text tells MAKES, so they are found once for it. */
        void gather(Told told) {
            if (gathered) {
                return;
            }
            count = 0;
            for (int make = 0; make < ALL; make++) {
                watch(told, make / OILS, make % OILS);
                if (unlikeSeen(told) == NOTHING_FITS && count < fitting.length) {
                    fitting[count] = make;
                    count++;
                }
            }
            gathered = true;
        }

        private void watch(Told told, int wood, int oil) {
            walk.begin(told.damp, wood, oil);
            for (int day = 0; day < outBehind.length; day++) {
                walk.passDay(told);
                outBehind[day] = walk.whoIsOut();
            }
        }

        private int unlikeSeen(Told told) {
            for (int k = 0; k < told.saws.count; k++) {
                int day = told.saws.cell(k, SAW_DAY);
                if (day >= 0 && day < outBehind.length && outBehind[day] != told.saws.cell(k, SAW_WHO)) {
                    return k;
                }
            }
            return NOTHING_FITS;
        }

        private void countOuts(Told told) {
            Arrays.fill(counts, 0);
            for (int i = 0; i < count && i < fitting.length; i++) {
                watch(told, fitting[i] / OILS, fitting[i] % OILS);
                for (int day = 0; day < outBehind.length; day++) {
                    int at = day * (BOTH + 1) + outBehind[day];
                    if (at >= 0 && at < counts.length) {
                        counts[at]++;
                    }
                }
            }
        }

        private int mostOf(int day) {
            int most = 0;
            for (int who = NOBODY; who <= BOTH; who++) {
                int at = day * (BOTH + 1) + who;
                if (at >= 0 && at < counts.length) {
                    most = Math.max(most, counts[at]);
                }
            }
            return most;
        }
    }

    /** With six fields at most, all cuts can be looked at: the least one is as much as can go. */
    static final class Floods {
        /** FLOOD, with another number for one ditch (NONE: for no one). */
        static int most(Told told, int ditch, int carries) {
            return told.fields < 2 ? 0 : acrossFrom(told, leastSide(told, ditch, carries), ditch, carries);
        }

        static int leastSide(Told told, int ditch, int carries) {
            int last = told.fields - 1;
            int least = 1;
            int across = acrossFrom(told, least, ditch, carries);
            for (int side = 3; side < 1 << last; side += 2) {
                int other = acrossFrom(told, side, ditch, carries);
                if (other < across) {
                    across = other;
                    least = side;
                }
            }
            return least;
        }

        private static int acrossFrom(Told told, int side, int ditch, int carries) {
            int sum = 0;
            for (int k = 0; k < told.ditches.count; k++) {
                boolean from = (side >> told.ditches.cell(k, DITCH_FROM) & 1) == 1;
                boolean to = (side >> told.ditches.cell(k, DITCH_TO) & 1) == 1;
                if (from && !to) {
                    sum += k == ditch ? carries : told.ditches.cell(k, DITCH_CARRIES);
                }
            }
            return sum;
        }

        static int narrowDitches(Told told) {
            int flood = most(told, NONE, 0);
            int bits = 0;
            for (int k = 0; k < told.ditches.count; k++) {
                if (most(told, k, told.ditches.cell(k, DITCH_CARRIES) + 1) > flood) {
                    bits |= 1 << k;
                }
            }
            return bits;
        }

        /** A way through fields is shorter than their number, so as many rounds find all. */
        static int reachedFrom(Told told, int field) {
            int reached = 1 << field;
            for (int round = 0; round < told.fields; round++) {
                for (int k = 0; k < told.ditches.count; k++) {
                    if ((reached >> told.ditches.cell(k, DITCH_FROM) & 1) == 1) {
                        reached |= 1 << told.ditches.cell(k, DITCH_TO);
                    }
                }
            }
            return reached;
        }
    }

    /** Days to come with gusts, by chance and by draws. */
    static final class Gusts {
        /** In place of a WHO: the mean of the ANGLES is asked for. */
        static final int ANGLES = -1;

        private static final int MOST_DIVISIONS = 200;

        long upper;
        long lower;
        int wetDays;
        final Beam walk = new Beam();

        /** Each bit of a number below 2 to the n tells whether a gust comes behind a DAY. */
        void weigh(Told told, Beam now, int n, int who) {
            upper = 0;
            lower = 1;
            for (int i = 0; i < n; i++) {
                lower *= 100;
            }
            for (int gusty = 0; gusty < 1 << n; gusty++) {
                long weight = blow(told, now, n, gusty);
                if (who == ANGLES) {
                    upper += weight * (walk.angle + FARTHEST);
                } else if (walk.whoIsOut() == who) {
                    upper += weight;
                }
            }
            shorten();
        }

        private long blow(Told told, Beam now, int n, int gusty) {
            long weight = 1;
            walk.copy(now);
            for (int i = 0; i < n; i++) {
                walk.passDay(told);
                if ((gusty >> i & 1) == 1) {
                    walk.gust();
                    weight *= told.gust;
                } else {
                    weight *= 100 - told.gust;
                }
            }
            return weight;
        }

        private void shorten() {
            long common = lower;
            long rest = upper;
            for (int i = 0; i < MOST_DIVISIONS && rest != 0; i++) {
                long next = common % rest;
                common = rest;
                rest = next;
            }
            if (common > 1) {
                upper /= common;
                lower /= common;
            }
        }

        void draw(Told told, Beam now, int seed, int n) {
            int drawn = seed;
            wetDays = 0;
            walk.copy(now);
            for (int i = 0; i < n; i++) {
                walk.passDay(told);
                wetDays += walk.weather == WET ? 1 : 0;
                drawn = (75 * drawn + 74) % 65537;
                if (drawn % 100 < told.gust) {
                    walk.gust();
                }
            }
        }
    }

    /** The beam as it was: ahead of the latest ACTS, and by IMAGES. */
    static final class Past {
        private static final int ACTS_KEPT = 16;
        private static final int IMAGES_KEPT = 3;

        int acts;
        int images;
        private int next;
        private final Beam[] aheadOf = new Beam[ACTS_KEPT];
        private final Beam[] painted = new Beam[IMAGES_KEPT];

        Past() {
            for (int i = 0; i < aheadOf.length; i++) {
                aheadOf[i] = new Beam();
            }
            for (int i = 0; i < painted.length; i++) {
                painted[i] = new Beam();
            }
        }

        void forget() {
            acts = 0;
            images = 0;
        }

        /** Ahead of an ACT; the oldest one that is kept gives way when there are too many. */
        void keep(Beam now) {
            if (!within(next, 0, ACTS_KEPT - 1)) {
                return;
            }
            aheadOf[next].copy(now);
            next = (next + 1) % ACTS_KEPT;
            acts = Math.min(acts + 1, ACTS_KEPT);
        }

        boolean takeBack(Beam now) {
            int latest = (next + ACTS_KEPT - 1) % ACTS_KEPT;
            if (acts == 0 || !within(latest, 0, ACTS_KEPT - 1)) {
                return false;
            }
            now.copy(aheadOf[latest]);
            next = latest;
            acts--;
            return true;
        }

        int paint(Beam now) {
            if (images >= IMAGES_KEPT) {
                return NONE;
            }
            painted[images].copy(now);
            images++;
            return images - 1;
        }

        boolean recall(int image, Beam now) {
            if (image < 0 || image >= images || image >= IMAGES_KEPT) {
                return false;
            }
            now.copy(painted[image]);
            acts = 0;
            return true;
        }
    }
}
