/** Promises 38 to 41: gusts by chance and by draws. */
public final class GustsTest {
    private static final Check CHECK = new Check();
    private static final String QUARTER = Village.chalet(50, 0, 2, 25);

    public static void main(String[] args) {
        refusals();
        likely();
        mean();
        surelyOrNever();
        draws();
        nineAtMost();
        ventsOpenNow();
        CHECK.end("GustsTest");
    }

    private static void refusals() {
        ChaletRule x = new ChaletRule();
        CHECK.refused("likely", x, x.likely(9, 0, true), 1);
        CHECK.refused("mean", x, x.mean(9, false), 1);
        CHECK.refused("gusted", x, x.gusted(-1, 0), 1);
        CHECK.refused("wetIn", x, x.wetIn(0, 0), 1);
        Check.read(x, Village.TEXT);
        for (int n : new int[] {-1, 7, Integer.MIN_VALUE, Integer.MAX_VALUE}) {
            CHECK.refused("likely(0, " + n + ")", x, x.likely(0, n, false), 2);
            CHECK.refused("likely(" + n + ", 0)", x, x.likely(n, 0, true), 2);
            CHECK.refused("mean(" + n + ")", x, x.mean(n, true), 2);
        }
        CHECK.refused("likely(4, 0)", x, x.likely(4, 0, true), 2);
        for (int n : new int[] {-1, 61, Integer.MIN_VALUE, Integer.MAX_VALUE}) {
            CHECK.refused("gusted(0, " + n + ")", x, x.gusted(0, n), 2);
            CHECK.refused("wetIn(0, " + n + ")", x, x.wetIn(0, n), 2);
        }
        for (int seed : new int[] {-1, 65537, Integer.MIN_VALUE, Integer.MAX_VALUE}) {
            CHECK.refused("gusted(" + seed + ", 0)", x, x.gusted(seed, 0), 2);
            CHECK.refused("wetIn(" + seed + ", 0)", x, x.wetIn(seed, 0), 2);
        }
        x.gusted(65536, 60);
        CHECK.due("not refused", x.trouble(), 0);
    }

    private static void ratio(String call, long upper, long lower, long wantUpper, long wantLower) {
        CHECK.due(call + " upper", upper, wantUpper);
        CHECK.due(call + " lower", lower, wantLower);
    }

    private static void likelyIs(ChaletRule x, int who, int n, long upper, long lower) {
        ratio("likely(" + who + ", " + n + ")", x.likely(who, n, false), x.likely(who, n, true), upper, lower);
    }

    private static void meanIs(ChaletRule x, int n, long upper, long lower) {
        ratio("mean(" + n + ")", x.mean(n, false), x.mean(n, true), upper, lower);
    }

    /** He comes out by the first gust, one in four, and stays out: three quarters to the n he doesn't. */
    private static void likely() {
        ChaletRule x = Check.with(QUARTER);
        likelyIs(x, 0, 0, 1, 1);
        likelyIs(x, 1, 0, 0, 1);
        likelyIs(x, 1, 1, 1, 4);
        likelyIs(x, 0, 1, 3, 4);
        likelyIs(x, 2, 1, 0, 1);
        likelyIs(x, 3, 6, 0, 1);
        likelyIs(x, 0, 2, 9, 16);
        likelyIs(x, 1, 2, 7, 16);
        likelyIs(x, 0, 6, 729, 4096);
        likelyIs(x, 1, 6, 3367, 4096);
        ChaletRule odd = Check.with(Village.chalet(50, 0, 2, 1));
        likelyIs(odd, 0, 6, 941480149401L, 1000000000000L);
        likelyIs(odd, 1, 6, 58519850599L, 1000000000000L);
    }

    private static void mean() {
        ChaletRule x = Check.with(QUARTER);
        meanIs(x, 0, 9, 1);
        meanIs(x, 1, 37, 4);
        meanIs(x, 2, 19, 2);
        ChaletRule village = Check.with(Village.TEXT);
        meanIs(village, 1, 23, 2);
        ChaletRule calm = Check.with(Village.chalet(80, 1, 1, 0) + ";weather wet 15 fine 20");
        for (int n = 0; n <= 6; n++) {
            meanIs(calm, n, calm.angleIn(n), 1);
        }
    }

    private static void surelyOrNever() {
        ChaletRule x = Check.with(Village.chalet(50, 0, 2, 100));
        likelyIs(x, 1, 1, 1, 1);
        likelyIs(x, 0, 1, 0, 1);
        meanIs(x, 1, 10, 1);
        CHECK.due("gusted(5, 1)", x.gusted(5, 1), 10);
        CHECK.due("gusted(5, 2)", x.gusted(5, 2), 11);
        ChaletRule never = Check.with(Village.chalet(50, 0, 2, 0));
        likelyIs(never, 0, 6, 1, 1);
        CHECK.due("never gusted", never.gusted(65535, 60), 9);
        CHECK.due("never wet", never.wetIn(65535, 60), 0);
    }

    /** Seed 0 becomes 74, 5624, 28652: 74, 24 and 52 mod 100; seed 65,536 becomes itself: 36. */
    private static void draws() {
        ChaletRule half = Check.with(Village.chalet(50, 0, 2, 50));
        int[] angles = {9, 9, 10, 10, 11};
        int[] wet = {0, 0, 0, 1, 2};
        for (int n = 0; n < 4; n++) {
            CHECK.due("gusted(0, " + n + ")", half.gusted(0, n), angles[n]);
            CHECK.due("wetIn(0, " + n + ")", half.wetIn(0, n), wet[n]);
        }
        CHECK.due("74 is not below 74", Check.with(Village.chalet(50, 0, 2, 74)).gusted(0, 1), 9);
        CHECK.due("74 is below 75", Check.with(Village.chalet(50, 0, 2, 75)).gusted(0, 1), 10);
        CHECK.due("36 is not below 36", Check.with(Village.chalet(50, 0, 2, 36)).gusted(65536, 60), 9);
        CHECK.due("36 is below 37", Check.with(Village.chalet(50, 0, 2, 37)).gusted(65536, 1), 10);
        CHECK.due("all but the first are wet", Check.with(Village.chalet(50, 0, 2, 37)).wetIn(65536, 60), 59);
    }

    private static void nineAtMost() {
        ChaletRule x = Check.with(Village.chalet(100, 0, 3, 100) + ";vent a wet 9 costs 0");
        for (int i = 0; i < 4; i++) {
            x.open(0);
            x.day();
        }
        x.open(0);
        CHECK.due("at 9", x.beam(0), 18);
        CHECK.due("gusted", x.gusted(0, 1), 18);
        meanIs(x, 1, 18, 1);
        x.undo();
        CHECK.due("without the vent", x.gusted(0, 1), 16);
    }

    private static void ventsOpenNow() {
        ChaletRule x = Check.with(QUARTER + ";vent a fine 2 costs 0");
        x.open(0);
        likelyIs(x, 2, 1, 1, 1);
        meanIs(x, 1, 29, 4);
        CHECK.due("gusted(0, 1)", x.gusted(0, 1), 7);
        CHECK.due("nothing changes", x.vent(0, 3), 1);
        CHECK.due("no day", x.size(10), 0);
    }
}
