/** Promises 31 and 32: a junior and a step. */
public final class TurnsTest {
    private static final Check CHECK = new Check();

    public static void main(String[] args) {
        refusals();
        village();
        smallHouse();
        ventsOpenNow();
        CHECK.end("TurnsTest");
    }

    private static void refusals() {
        ChaletRule x = new ChaletRule();
        CHECK.refused("value", x, x.value(9), 1);
        CHECK.refused("opens", x, x.opens(9), 1);
        Check.read(x, Village.TEXT);
        for (int n : new int[] {-1, 5, Integer.MIN_VALUE, Integer.MAX_VALUE}) {
            CHECK.refused("value(" + n + ")", x, x.value(n), 2);
            CHECK.refused("opens(" + n + ")", x, x.opens(n), 2);
        }
        CHECK.refused("opens(0)", x, x.opens(0), 2);
        x.value(0);
        CHECK.due("not refused", x.trouble(), 0);
    }

    /** Flue helps the junior nothing on the first day: two is as far as it goes. Then sash takes two. */
    private static void village() {
        ChaletRule x = Check.with(Village.TEXT);
        CHECK.due("value(0)", x.value(0), 9);
        CHECK.due("value(1)", x.value(1), 11);
        CHECK.due("opens(1)", x.opens(1), -2);
        CHECK.due("value(2)", x.value(2), 10);
        CHECK.due("opens(2)", x.opens(2), -2);
        CHECK.due("without vents", Check.with(Village.chalet(50, 0, 3, 0)).value(4), 9);
        CHECK.due("without vents opens", Check.with(Village.chalet(50, 0, 3, 0)).opens(4), -2);
    }

    /** One step a day each: the junior goes one up by the second vent, the step one down by the first. */
    private static void smallHouse() {
        ChaletRule x = Check.with(Village.chalet(50, 0, 0, 0) + ";vent a fine 1 costs 0;vent b wet 2 costs 0;vent c wet 9 costs 0");
        int[] values = {9, 10, 9, 10, 9};
        for (int n = 0; n <= 4; n++) {
            CHECK.due("value(" + n + ")", x.value(n), values[n]);
        }
        for (int n = 1; n <= 4; n++) {
            CHECK.due("opens(" + n + ")", x.opens(n), 1);
        }
        ChaletRule last = Check.with(Village.chalet(50, 0, 0, 0) + ";vent a fine 1 costs 0;vent b fine 2 costs 0;vent c fine 3 costs 0;"
                + "vent d wet 1 costs 0");
        CHECK.due("the last vent", last.opens(1), 3);
        CHECK.due("its value", last.value(1), 10);
        ChaletRule far = Check.with(Village.chalet(0, 0, 0, 0) + ";vent a fine 9 costs 0;vent b wet 9 costs 0");
        for (int i = 0; i < 9; i++) {
            far.open(0);
            far.day();
        }
        CHECK.due("far on the fine side", far.beam(0), 0);
        CHECK.due("one back without a vent", far.value(1), 1);
        CHECK.due("none is as good", far.opens(1), -2);
        far.open(0);
        CHECK.due("the fine one is open", far.value(1), 1);
        CHECK.due("the wet one helps", far.opens(1), 1);
    }

    private static void ventsOpenNow() {
        ChaletRule x = Check.with(Village.chalet(50, 0, 1, 0) + ";vent a fine 1 costs 0;vent b wet 2 costs 0");
        CHECK.due("value(1)", x.value(1), 11);
        x.open(0);
        CHECK.due("besides the open one", x.value(1), 10);
        CHECK.due("opens(1)", x.opens(1), 1);
        x.open(1);
        CHECK.due("both are open", x.opens(1), -2);
        CHECK.due("they pull once", x.value(1), 10);
        CHECK.due("nothing changes", x.beam(0), 9);
        CHECK.due("they stay open", x.vent(0, 3) + x.vent(1, 3), 2);
    }
}
