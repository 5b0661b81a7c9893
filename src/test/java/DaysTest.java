/** Promises 11 to 17: days to come. */
public final class DaysTest {
    private static final Check CHECK = new Check();

    public static void main(String[] args) {
        refusals();
        wetDays();
        fineDays();
        edgesOfDampAndPull();
        openVentsForOneDay();
        when();
        round();
        kept();
        nothingChanges();
        CHECK.end("DaysTest");
    }

    private static void refusals() {
        ChaletRule x = new ChaletRule();
        CHECK.refused("angleIn", x, x.angleIn(61), 1);
        CHECK.refused("dampIn", x, x.dampIn(0), 1);
        CHECK.refused("whoIn", x, x.whoIn(0), 1);
        CHECK.refused("daysOf", x, x.daysOf(0, 0), 1);
        CHECK.refused("when", x, x.when(0), 1);
        CHECK.refused("round", x, x.round(), 1);
        CHECK.refused("kept", x, x.kept(0), 1);
        Check.read(x, Village.TEXT);
        for (int n : new int[] {-1, 61, Integer.MIN_VALUE, Integer.MAX_VALUE}) {
            CHECK.refused("angleIn(" + n + ")", x, x.angleIn(n), 2);
            CHECK.refused("dampIn(" + n + ")", x, x.dampIn(n), 2);
            CHECK.refused("whoIn(" + n + ")", x, x.whoIn(n), 2);
            CHECK.refused("daysOf(0, " + n + ")", x, x.daysOf(0, n), 2);
            CHECK.refused("daysOf(" + n + ", 0)", x, x.daysOf(n, 0), 2);
            CHECK.refused("when(" + n + ")", x, x.when(n), 2);
            CHECK.refused("kept(" + n + ")", x, x.kept(n), 2);
        }
        CHECK.refused("daysOf(3, 0)", x, x.daysOf(3, 0), 2);
        CHECK.refused("when(4)", x, x.when(4), 2);
        x.angleIn(60);
        CHECK.due("not refused", x.trouble(), 0);
    }

    /** Damp 80 turns it by two; then he is out, the damp rises to 100, and wood holds it to one a day. */
    private static void wetDays() {
        ChaletRule x = Check.with(Village.TEXT);
        int[] angles = {9, 11, 12, 13, 14, 14};
        int[] damps = {80, 80, 95, 100, 100, 100};
        for (int n = 0; n < 6; n++) {
            CHECK.due("angleIn(" + n + ")", x.angleIn(n), angles[n]);
            CHECK.due("dampIn(" + n + ")", x.dampIn(n), damps[n]);
            CHECK.due("whoIn(" + n + ")", x.whoIn(n), n == 0 ? 0 : 1);
        }
        CHECK.due("angleIn(60)", x.angleIn(60), 14);
        CHECK.due("daysOf(0, 60)", x.daysOf(0, 60), 1);
        CHECK.due("daysOf(1, 60)", x.daysOf(1, 60), 59);
        CHECK.due("daysOf(1, 1)", x.daysOf(1, 1), 0);
        CHECK.due("daysOf(0, 0)", x.daysOf(0, 0), 0);
    }

    private static void fineDays() {
        ChaletRule x = Check.with(Village.chalet(25, 0, 1, 0) + ";weather wet 0 fine 10");
        int[] angles = {9, 7, 6, 5, 4, 4};
        int[] damps = {25, 25, 15, 5, 0, 0};
        for (int n = 0; n < 6; n++) {
            CHECK.due("fine angleIn(" + n + ")", x.angleIn(n), angles[n]);
            CHECK.due("fine dampIn(" + n + ")", x.dampIn(n), damps[n]);
            CHECK.due("fine whoIn(" + n + ")", x.whoIn(n), n == 0 ? 0 : 2);
        }
        CHECK.due("daysOf(2, 5)", x.daysOf(2, 5), 4);
        CHECK.due("daysOf(2, 60)", x.daysOf(2, 60), 59);
        CHECK.due("daysOf(1, 60)", x.daysOf(1, 60), 0);
    }

    private static void edgesOfDampAndPull() {
        ChaletRule both = Check.with(Village.chalet(59, 0, 3, 0));
        CHECK.due("both out: still", both.daysOf(0, 60), 60);
        CHECK.due("both out: damp stays", both.dampIn(60), 59);
        ChaletRule held = Check.with(Village.chalet(100, 0, 0, 0));
        CHECK.due("held by 100", held.angleIn(60), 9);
        ChaletRule vents = Check.with(Village.chalet(100, 0, 3, 0) + ";vent a wet 9 costs 0;vent b wet 9 costs 0;vent c fine 9 costs 0");
        for (int i = 0; i < 4; i++) {
            vents.open(0);
            vents.open(1);
            vents.day();
        }
        CHECK.due("no further than 9", vents.beam(0), 18);
        vents.open(0);
        vents.open(1);
        vents.open(2);
        CHECK.due("5 and 9 and 9 less 9 is too far", vents.angleIn(1), 18);
        CHECK.due("then 5", vents.angleIn(3), 14);
    }

    private static void openVentsForOneDay() {
        ChaletRule x = Check.with(Village.TEXT);
        x.open(1);
        int[] angles = {9, 7, 9, 11};
        int[] damps = {80, 80, 60, 60};
        int[] who = {0, 2, 0, 0};
        for (int n = 0; n < 3; n++) {
            CHECK.due("sash angleIn(" + n + ")", x.angleIn(n), angles[n]);
            CHECK.due("sash dampIn(" + n + ")", x.dampIn(n), damps[n]);
            CHECK.due("sash whoIn(" + n + ")", x.whoIn(n), who[n]);
        }
        CHECK.due("angle 1 for good", x.angleIn(60), 10);
        CHECK.due("daysOf(2, 5)", x.daysOf(2, 5), 1);
    }

    private static void when() {
        ChaletRule x = Check.with(Village.TEXT);
        CHECK.due("when(0)", x.when(0), 0);
        CHECK.due("when(1)", x.when(1), 1);
        CHECK.due("when(2)", x.when(2), -2);
        CHECK.due("when(3)", x.when(3), -2);
        CHECK.due("not refused", x.trouble(), 0);
        x.open(1);
        CHECK.due("sash when(2)", x.when(2), 1);
        CHECK.due("sash when(1)", x.when(1), -2);
        x.day();
        CHECK.due("then when(0)", x.when(0), 1);
        CHECK.due("both at first", Check.with(Village.chalet(50, 0, 3, 0)).when(3), 0);
    }

    private static void round() {
        ChaletRule x = Check.with(Village.TEXT);
        CHECK.due("round()", x.round(), 50001);
        x.day();
        CHECK.due("a day later", x.round(), 40001);
        for (int i = 0; i < 10; i++) {
            x.day();
        }
        CHECK.due("NOW is no part of it", x.round(), 20001);
        x.open(1);
        CHECK.due("with a vent", x.round(), 30001);
        CHECK.due("dry", Check.with(Village.chalet(0, 0, 1, 0)).round(), 40001);
    }

    private static void kept() {
        String plans = ";plan a on 0 wet worth 1;plan b on 1 wet worth 2;plan c on 1 fine worth 4;plan d on 2 wet worth 8;"
                + "plan e on 20 wet worth 16;plan f on 1 wet worth 32";
        ChaletRule x = Check.with(Village.chalet(80, 1, 1, 0) + plans);
        int[] want = {0, 0, 34, 42};
        for (int n = 0; n < 4; n++) {
            CHECK.due("kept(" + n + ")", x.kept(n), want[n]);
        }
        CHECK.due("kept(20)", x.kept(20), 42);
        CHECK.due("kept(21)", x.kept(21), 58);
        CHECK.due("kept(60)", x.kept(60), 58);
        x.day();
        x.day();
        CHECK.due("those gone by do not count", x.kept(1), 8);
        CHECK.due("nor later on", x.kept(60), 24);
    }

    private static void nothingChanges() {
        ChaletRule x = Check.with(Village.TEXT);
        x.open(0);
        x.angleIn(60);
        x.round();
        x.when(3);
        x.daysOf(1, 60);
        x.kept(60);
        CHECK.due("angle", x.beam(0), 9);
        CHECK.due("vent", x.vent(0, 3), 1);
        CHECK.due("days", x.size(10), 0);
        CHECK.due("acts", x.size(11), 1);
    }
}
