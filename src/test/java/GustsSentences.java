/** Promises 38 to 41: gusts by chance and by draws. */
final class GustsSentences {
    private static final int[] BAD_GUST_DAYS = {-1, 7, Integer.MIN_VALUE, Integer.MAX_VALUE};
    private static final int[] BAD_DAYS = {-1, 61, Integer.MIN_VALUE, Integer.MAX_VALUE};
    private static final int[] BAD_SEEDS = {-1, 65537, Integer.MIN_VALUE, Integer.MAX_VALUE};

    private final Sentences doc;
    private final ChaletRule none = new ChaletRule();
    private final ChaletRule quarter = gusty(25);

    GustsSentences(Sentences doc) {
        this.doc = doc;
    }

    /** Only gusts bring him out here, by the first one. */
    private static ChaletRule gusty(int gust) {
        return Check.with(Village.chalet(50, 0, 2, gust));
    }

    void all() {
        term();
        likely();
        mean();
        gusted();
        wetIn();
    }

    private void says(String section, String quote) {
        doc.says(section, quote);
    }

    private void likelyIs(ChaletRule x, int who, int n, long upper, long lower) {
        doc.due("likely(" + who + ", " + n + ", false)", x.likely(who, n, false), upper);
        doc.due("likely(" + who + ", " + n + ", true)", x.likely(who, n, true), lower);
    }

    private void meanIs(ChaletRule x, int n, long upper, long lower) {
        doc.due("mean(" + n + ", false)", x.mean(n, false), upper);
        doc.due("mean(" + n + ", true)", x.mean(n, true), lower);
    }

    private static ChaletRule atNine(int gust) {
        ChaletRule x = Check.with(Village.chalet(100, 0, 3, gust) + ";vent a wet 9 costs 0");
        for (int i = 0; i < 4; i++) {
            x.open(0);
            x.day();
        }
        x.open(0);
        return x;
    }

    private void term() {
        says("III", "GUSTS by chance: behind each DAY, as likely as told, the ANGLE is 1 more to the wet side (9 at most);");
        likelyIs(quarter, 1, 1, 1, 4);
        meanIs(quarter, 1, 37, 4);
        likelyIs(gusty(100), 1, 1, 1, 1);
        likelyIs(gusty(0), 1, 6, 0, 1);
        ChaletRule nine = atNine(100);
        doc.due("at 9", nine.beam(0), 18);
        meanIs(nine, 1, 18, 1);
        doc.due("by a SEED, too", nine.gusted(0, 1), 18);
        ChaletRule fine = Check.with(Village.chalet(0, 0, 0, 100));
        doc.due("from the fine side: -1 and 1", fine.gusted(0, 1), 9);
        doc.due("the DAY sees who is out ahead of its gust", gusty(100).wetIn(0, 1), 0);
        says("III", "by a SEED: a DRAW mod 100 behind each DAY: below gust (SEED becomes (75 times SEED and 74) mod 65,537).");
        doc.due("74 is not below 74", gusty(74).gusted(0, 1), 9);
        doc.due("74 is below 75", gusty(75).gusted(0, 1), 10);
        doc.due("then 5,624: 24 is not below 24", gusty(24).gusted(0, 2), 9);
        doc.due("24 is below 25", gusty(25).gusted(0, 2), 10);
        doc.due("65,536 stays: 36 is not below 36", gusty(36).gusted(65536, 60), 9);
        doc.due("36 is below 37", gusty(37).gusted(65536, 1), 10);
        doc.due("873 times 75 and 74 is 65,549: 12 is not below 12", gusty(12).gusted(873, 1), 9);
        doc.due("12 is below 13", gusty(13).gusted(873, 1), 10);
    }

    private void likely() {
        says("38", "How likely those out behind n DAYS");
        likelyIs(quarter, 0, 1, 3, 4);
        likelyIs(quarter, 0, 2, 9, 16);
        likelyIs(quarter, 1, 2, 7, 16);
        says("38", "(0 .. 6)");
        likelyIs(quarter, 0, 0, 1, 1);
        doc.due("not refused", quarter.trouble(), 0);
        likelyIs(quarter, 0, 6, 729, 4096);
        doc.due("not refused", quarter.trouble(), 0);
        says("38", "of GUSTS are WHO");
        long[] uppers = {3, 1, 0, 0};
        long[] lowers = {4, 4, 1, 1};
        for (int who = 0; who < 4; who++) {
            likelyIs(quarter, who, 1, uppers[who], lowers[who]);
        }
        says("38", "(0 .. 3),");
        for (int who = 0; who < 4; who++) {
            quarter.likely(who, 0, true);
            doc.due("not refused", quarter.trouble(), 0);
        }
        ChaletRule both = Check.with(Village.chalet(50, 0, 3, 40));
        likelyIs(both, 3, 1, 3, 5);
        says("38", "the upper WHOLE or the lower, in lowest terms");
        likelyIs(gusty(50), 1, 1, 1, 2);
        likelyIs(gusty(1), 0, 6, 941480149401L, 1000000000000L);
        likelyIs(gusty(1), 1, 6, 58519850599L, 1000000000000L);
        likelyIs(gusty(100), 1, 6, 1, 1);
        says("38", "(0 by 1).");
        likelyIs(quarter, 2, 6, 0, 1);
        likelyIs(quarter, 1, 0, 0, 1);
        says("38", "-1: 1 (no CHALET);");
        doc.refused("likely(0, 0, true)", none, none.likely(0, 0, true), 1);
        doc.refused("likely(4, 7, false)", none, none.likely(4, 7, false), 1);
        says("38", "2.");
        for (int n : BAD_GUST_DAYS) {
            doc.refused("likely(0, " + n + ", true)", quarter, quarter.likely(0, n, true), 2);
            doc.refused("likely(0, " + n + ", false)", quarter, quarter.likely(0, n, false), 2);
        }
        for (int who : new int[] {-1, 4, Integer.MIN_VALUE, Integer.MAX_VALUE}) {
            doc.refused("likely(" + who + ", 0, true)", quarter, quarter.likely(who, 0, true), 2);
        }
    }

    private void mean() {
        says("39", "The mean of the ANGLE (and 9) behind them, likewise.");
        meanIs(quarter, 0, 9, 1);
        doc.due("not refused", quarter.trouble(), 0);
        meanIs(quarter, 1, 37, 4);
        meanIs(quarter, 2, 19, 2);
        ChaletRule calm = Check.with(Village.TEXT.replace("gust 50", "gust 0"));
        for (int n = 0; n <= 6; n++) {
            meanIs(calm, n, calm.angleIn(n), 1);
            doc.due("not refused", calm.trouble(), 0);
        }
        ChaletRule far = Check.with(Village.chalet(0, 0, 3, 0) + ";vent a fine 9 costs 0");
        for (int i = 0; i < 3; i++) {
            far.open(0);
            far.day();
        }
        meanIs(far, 0, 0, 1);
        says("39", "-1: likewise.");
        doc.refused("no CHALET", none, none.mean(7, true), 1);
        for (int n : BAD_GUST_DAYS) {
            doc.refused("mean(" + n + ", true)", quarter, quarter.mean(n, true), 2);
            doc.refused("mean(" + n + ", false)", quarter, quarter.mean(n, false), 2);
        }
    }

    private void gusted() {
        says("40", "The ANGLE behind n DAYS");
        ChaletRule half = gusty(50);
        int[] angles = {9, 9, 10, 10};
        for (int n = 0; n < angles.length; n++) {
            doc.due("gusted(0, " + n + ")", half.gusted(0, n), angles[n]);
        }
        says("40", "(0 .. 60)");
        doc.due("gusted(0, 0)", half.gusted(0, 0), 9);
        doc.due("not refused", half.trouble(), 0);
        doc.due("gusted(0, 60)", gusty(0).gusted(0, 60), 9);
        half.gusted(0, 60);
        doc.due("not refused", half.trouble(), 0);
        says("40", "with GUSTS by a SEED");
        doc.due("100", gusty(100).gusted(5, 1), 10);
        doc.due("0", gusty(0).gusted(5, 1), 9);
        doc.due("the same again", half.gusted(0, 3), 10);
        says("40", "(0 .. 65,536).");
        doc.due("gusted(65536, 0)", half.gusted(65536, 0), 9);
        doc.due("not refused", half.trouble(), 0);
        doc.due("gusted(0, 2)", half.gusted(0, 2), 10);
        doc.due("not refused", half.trouble(), 0);
        says("40", "NONE: 1 (no CHALET);");
        doc.refused("gusted(0, 0)", none, none.gusted(0, 0), 1);
        doc.refused("gusted(-1, 61)", none, none.gusted(-1, 61), 1);
        says("40", "2.");
        for (int n : BAD_DAYS) {
            doc.refused("gusted(0, " + n + ")", half, half.gusted(0, n), 2);
        }
        for (int seed : BAD_SEEDS) {
            doc.refused("gusted(" + seed + ", 0)", half, half.gusted(seed, 0), 2);
        }
    }

    private void wetIn() {
        says("41", "How many of these DAYS are wet.");
        ChaletRule half = gusty(50);
        int[] wet = {0, 0, 0, 1, 2};
        for (int n = 0; n < wet.length; n++) {
            doc.due("wetIn(0, " + n + ")", half.wetIn(0, n), wet[n]);
        }
        doc.due("all but the first", gusty(37).wetIn(65536, 60), 59);
        doc.due("not refused", gusty(37).trouble(), 0);
        doc.due("fine ones don't count", Check.with(Village.chalet(0, 0, 1, 0)).wetIn(0, 60), 0);
        ChaletRule later = Check.with(Village.TEXT.replace("gust 50", "gust 0"));
        later.day();
        later.day();
        doc.due("those gone by don't count", later.wetIn(7, 3), 3);
        says("41", "NONE: likewise.");
        doc.refused("no CHALET", none, none.wetIn(-1, 61), 1);
        for (int n : BAD_DAYS) {
            doc.refused("wetIn(0, " + n + ")", half, half.wetIn(0, n), 2);
        }
        for (int seed : BAD_SEEDS) {
            doc.refused("wetIn(" + seed + ", 0)", half, half.wetIn(seed, 0), 2);
        }
    }
}
