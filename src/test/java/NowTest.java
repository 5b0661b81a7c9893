/** Promises 6 to 10: the beam, vents, plans, and what it does with so much damp. */
public final class NowTest {
    private static final Check CHECK = new Check();

    public static void main(String[] args) {
        noChalet();
        beam();
        who();
        vent();
        plan();
        goes();
        stays();
        CHECK.end("NowTest");
    }

    private static void noChalet() {
        ChaletRule x = new ChaletRule();
        CHECK.refused("beam", x, x.beam(9), 1);
        CHECK.refused("vent", x, x.vent(0, 0), 1);
        CHECK.refused("plan", x, x.plan(0, 0), 1);
        CHECK.refused("goes", x, x.goes(101), 1);
        CHECK.refused("stays", x, x.stays(), 1);
    }

    private static void beam() {
        ChaletRule x = Check.with(Village.TEXT);
        int[] first = {9, 80, 0, 1, 0, 12};
        int[] second = {11, 80, 1, 1, 0, 12};
        int[] third = {12, 95, 1, 1, 1, 13};
        beamIs(x, "first", first);
        x.day();
        beamIs(x, "second", second);
        x.open(0);
        x.open(1);
        beamIs(x, "vents do not count", second);
        x.undo();
        x.undo();
        x.day();
        beamIs(x, "third", third);
        CHECK.refused("beam(6)", x, x.beam(6), 1);
        CHECK.refused("beam(-1)", x, x.beam(-1), 1);
        x.beam(0);
        CHECK.due("not refused", x.trouble(), 0);
        int[] damps = {0, 1, 9, 10, 40, 41, 50, 59, 60, 69, 99, 100};
        int[] pulls = {-5, -4, -4, -4, -1, 0, 0, 0, 1, 1, 4, 5};
        for (int i = 0; i < damps.length; i++) {
            CHECK.due("pull of " + damps[i], Check.with(Village.chalet(damps[i], 0, 0, 0)).beam(5), pulls[i] + 9);
        }
        ChaletRule dry = Check.with(Village.chalet(0, 0, 1, 0));
        dry.day();
        dry.day();
        beamIs(dry, "dry", new int[] {5, 0, 2, 1, 2, 4});
    }

    private static void beamIs(ChaletRule x, String name, int[] want) {
        for (int what = 0; what < want.length; what++) {
            CHECK.due(name + " beam(" + what + ")", x.beam(what), want[what]);
        }
    }

    /** A day turns the beam to 3 with that much oil at 100: 3, 2, 1 and 0 are far enough by oil. */
    private static void who() {
        CHECK.due("oil 3 at 0", Check.with(Village.chalet(50, 0, 3, 0)).beam(2), 3);
        CHECK.due("oil 2 at 0", Check.with(Village.chalet(50, 0, 2, 0)).beam(2), 0);
        ChaletRule wet = Check.with(Village.chalet(99, 0, 0, 0));
        ChaletRule fine = Check.with(Village.chalet(0, 0, 0, 0));
        int[] wetWho = {0, 0, 1, 1};
        int[] fineWho = {0, 0, 2, 2};
        for (int i = 0; i < 4; i++) {
            wet.day();
            fine.day();
            CHECK.due("oil 0 wet at " + (i + 1), wet.beam(2), wetWho[i]);
            CHECK.due("oil 0 fine at " + (i + 1), fine.beam(2), fineWho[i]);
        }
        ChaletRule oiled = Check.with(Village.chalet(99, 0, 0, 0));
        oiled.day();
        oiled.oil();
        CHECK.due("1 with oil 1", oiled.beam(2), 0);
        oiled.oil();
        CHECK.due("1 with oil 2", oiled.beam(2), 1);
        oiled.oil();
        CHECK.due("1 with oil 3", oiled.beam(2), 1);
    }

    private static void vent() {
        ChaletRule x = Check.with(Village.TEXT);
        int[][] want = {{1, 4, 3, 0}, {2, 5, 2, 0}};
        for (int k = 0; k < 2; k++) {
            for (int what = 0; what < 4; what++) {
                CHECK.due("vent(" + k + ", " + what + ")", x.vent(k, what), want[k][what]);
            }
        }
        x.open(1);
        CHECK.due("open", x.vent(1, 3), 1);
        CHECK.due("not open", x.vent(0, 3), 0);
        x.day();
        CHECK.due("shut by a day", x.vent(1, 3), 0);
        int[][] wrong = {{-1, 0}, {2, 0}, {0, -1}, {0, 4}, {Integer.MIN_VALUE, 3}, {Integer.MAX_VALUE, 3}};
        for (int[] w : wrong) {
            CHECK.refused("vent(" + w[0] + ", " + w[1] + ")", x, x.vent(w[0], w[1]), 1);
        }
    }

    private static void plan() {
        ChaletRule x = Check.with(Village.TEXT);
        int[][] want = {{2, 2, 20, 0}, {3, 1, 9, 1}};
        for (int k = 0; k < 2; k++) {
            for (int what = 0; what < 4; what++) {
                CHECK.due("plan(" + k + ", " + what + ")", x.plan(k, what), want[k][what]);
            }
        }
        x.open(1);
        CHECK.due("sash once: still on day 2", x.plan(0, 3), 0);
        x.day();
        x.open(1);
        CHECK.due("sash twice: fine on day 2", x.plan(0, 3), 1);
        CHECK.due("and no longer wet on day 3", x.plan(1, 3), 0);
        x.day();
        CHECK.due("day 2 is fine", x.day(), 2);
        CHECK.due("gone by as it was", x.plan(0, 3), 1);
        for (int i = 0; i < 30; i++) {
            x.day();
        }
        CHECK.due("long gone by as it was", x.plan(0, 3), 1);
        CHECK.due("long gone by as it wasn't", x.plan(1, 3), 0);
        ChaletRule last = Check.with(Village.chalet(80, 1, 1, 0) + ";plan a on 20 wet worth 1;plan b on 0 wet worth 1");
        CHECK.due("day 20", last.plan(0, 3), 1);
        CHECK.due("day 0", last.plan(1, 3), 0);
        for (int i = 0; i < 21; i++) {
            last.day();
        }
        CHECK.due("day 20 gone by", last.plan(0, 3), 1);
        ChaletRule first = Check.with(Village.chalet(0, 0, 1, 0) + ";plan a on 0 fine worth 1;plan b on 1 fine worth 1");
        CHECK.due("the first day is still", first.plan(0, 3), 0);
        first.day();
        CHECK.due("the first day was still", first.plan(0, 3), 0);
        CHECK.due("the second one is fine", first.plan(1, 3), 1);
        int[][] wrong = {{-1, 0}, {2, 0}, {0, -1}, {0, 4}};
        for (int[] w : wrong) {
            CHECK.refused("plan(" + w[0] + ", " + w[1] + ")", x, x.plan(w[0], w[1]), 1);
        }
    }

    private static void goes() {
        for (int wood = 0; wood <= 9; wood++) {
            ChaletRule x = Check.with(Village.chalet(50, wood, 0, 0));
            for (int oil = 0; oil <= 3; oil++) {
                CHECK.due("free", x.goes(99 - 10 * wood), 1 + oil);
                CHECK.due("held", x.goes(100 - 10 * wood), oil);
                CHECK.due("held at most", x.goes(100), oil);
                CHECK.due("free at least", x.goes(0), 1 + oil);
                x.oil();
            }
        }
        ChaletRule x = Check.with(Village.TEXT);
        CHECK.refused("goes(101)", x, x.goes(101), 2);
        CHECK.refused("goes(-1)", x, x.goes(-1), 2);
    }

    private static void stays() {
        CHECK.due("by the pull alone", Check.with(Village.chalet(0, 0, 1, 0)).stays(), 41059);
        CHECK.due("held by wood", Check.with(Village.chalet(0, 2, 0, 0)).stays(), 41100);
        CHECK.due("held from below on", Check.with(Village.chalet(0, 9, 0, 0)).stays(), 10100);
        CHECK.due("held by 100 alone", Check.with(Village.chalet(0, 0, 0, 0)).stays(), 41100);
        ChaletRule x = Check.with(Village.chalet(80, 0, 2, 0));
        x.day();
        CHECK.due("at 3", x.stays(), 80089);
        ChaletRule fine = Check.with(Village.chalet(0, 0, 3, 0));
        fine.day();
        CHECK.due("at -4", fine.stays(), 1010);
        fine.day();
        CHECK.due("at -5", fine.stays(), 0);
        ChaletRule far = Check.with(Village.chalet(50, 0, 3, 0) + ";vent x wet 9 costs 0");
        far.open(0);
        far.day();
        far.open(0);
        CHECK.due("vents shut", far.stays(), 90099);
        far.day();
        CHECK.due("none", far.stays(), -2);
        CHECK.due("not refused", far.trouble(), 0);
    }
}
