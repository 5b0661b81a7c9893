/** Term II, and promises 6 to 10. */
final class BeamSentences {
    private static final String WET_AND_FINE = ";vent a wet 9 costs 0;vent b fine 9 costs 0";

    private final Sentences doc;

    BeamSentences(Sentences doc) {
        this.doc = doc;
    }

    void all() {
        angles();
        weathers();
        pulls();
        goingTowards();
        keptPlans();
        beam();
        vent();
        plan();
        goes();
        stays();
    }

    private void says(String section, String quote) {
        doc.says(section, quote);
    }

    /** Without weather and free of wood's hold: only vents turn it. */
    private static ChaletRule level(int oil) {
        return Check.with(Village.chalet(50, 0, oil, 0) + ";weather wet 0 fine 0" + WET_AND_FINE);
    }

    private static void dayWith(ChaletRule x, int vent) {
        x.open(vent);
        x.day();
    }

    private void angles() {
        says("II", "The BEAM has an ANGLE, 9 to the fine side (-9) to 9 to the wet side,");
        for (int oil = 0; oil <= 3; oil++) {
            ChaletRule wet = level(oil);
            ChaletRule fine = level(oil);
            for (int i = 1; i <= 12; i++) {
                dayWith(wet, 0);
                dayWith(fine, 1);
                doc.due("wet", wet.beam(0), 9 + Math.min(9, i * (1 + oil)));
                doc.due("fine", fine.beam(0), 9 - Math.min(9, i * (1 + oil)));
            }
        }
        says("II", "0 at first.");
        doc.due("beam(0)", level(0).beam(0), 9);
        doc.due("by any damp", Check.with(Village.chalet(100, 0, 3, 0)).beam(0), 9);
        says("II", "He is out if it is 3 less OIL or more,");
        int[][] outs = {{0, 0, 0, 3}, {0, 0, 1, 1}, {0, 1, 1, 1}, {1, 1, 1, 1}, {1, 1, 1, 1}};
        outBy(0, outs);
        says("II", "she if it is that much to the fine side or more");
        int[][] mirrored = {{0, 0, 0, 3}, {0, 0, 2, 2}, {0, 2, 2, 2}, {2, 2, 2, 2}, {2, 2, 2, 2}};
        outBy(1, mirrored);
        says("II", "(both may be).");
        doc.due("at 0 with 3", level(3).beam(2), 3);
        doc.due("at 0 with 2", level(2).beam(2), 0);
        says("II", "A DAY has a number (the first one 0). On it:");
        ChaletRule x = Check.with(Village.chalet(80, 0, 1, 0) + ";plan a on 0 wet worth 1;plan b on 1 wet worth 2;plan c on 2 wet worth 4");
        int[] kept = {0, 0, 2, 6};
        for (int days = 0; days < 4; days++) {
            doc.due("kept(" + days + ")", x.kept(days), kept[days]);
        }
        x.day();
        doc.due("the first one gone by", x.plan(0, 3), 0);
        doc.due("led(0)", Check.led(x, 0), -1000);
        x.day();
        doc.due("the second one's number is 1", Check.led(x, 0), 1);
    }

    /** Who is out at each angle (rows) by each oil (columns). */
    private void outBy(int vent, int[][] outs) {
        for (int angle = 0; angle < outs.length; angle++) {
            ChaletRule x = level(0);
            for (int i = 0; i < angle; i++) {
                dayWith(x, vent);
            }
            for (int oil = 0; oil <= 3; oil++) {
                doc.due("at " + angle + " with " + oil, x.beam(2), outs[angle][oil]);
                x.oil();
            }
        }
    }

    private void dampsAre(ChaletRule x, int... damps) {
        for (int n = 0; n < damps.length; n++) {
            doc.due("damp behind " + n, x.dampIn(n), damps[n]);
        }
    }

    private void weathers() {
        says("II", "its WEATHER: wet, if he alone is out ahead of it:");
        ChaletRule x = Check.with(Village.chalet(80, 0, 1, 0));
        doc.due("none is out", x.day(), 0);
        doc.due("he is", x.beam(2), 1);
        doc.due("wet", x.day(), 1);
        ChaletRule both = level(3);
        both.open(0);
        doc.due("both were out ahead of it", both.day(), 0);
        doc.due("he is out behind it", both.beam(2), 1);
        says("II", "DAMP is so much more as wet tells (100 at most);");
        dampsAre(Check.with(Village.chalet(80, 0, 1, 0) + ";weather wet 15 fine 9"), 80, 80, 95, 100, 100);
        dampsAre(Check.with(Village.chalet(80, 0, 1, 0) + ";weather wet 20 fine 9"), 80, 80, 100, 100);
        dampsAre(Check.with(Village.chalet(80, 0, 1, 0) + ";weather wet 19 fine 9"), 80, 80, 99, 100);
        dampsAre(Check.with(Village.chalet(80, 0, 1, 0) + ";weather wet 0 fine 9"), 80, 80, 80);
        dampsAre(Check.with(Village.chalet(80, 0, 1, 0) + ";weather wet 30 fine 9"), 80, 80, 100, 100);
        says("II", "fine, if she alone is: so much less as fine tells (0 at least);");
        ChaletRule fine = Check.with(Village.chalet(20, 0, 1, 0) + ";weather wet 9 fine 15");
        dampsAre(fine, 20, 20, 5, 0, 0);
        dampsAre(Check.with(Village.chalet(20, 0, 1, 0) + ";weather wet 9 fine 20"), 20, 20, 0, 0);
        dampsAre(Check.with(Village.chalet(20, 0, 1, 0) + ";weather wet 9 fine 19"), 20, 20, 1, 0);
        dampsAre(Check.with(Village.chalet(20, 0, 1, 0) + ";weather wet 9 fine 0"), 20, 20, 20);
        dampsAre(Check.with(Village.chalet(20, 0, 1, 0) + ";weather wet 9 fine 30"), 20, 20, 0, 0);
        fine.day();
        doc.due("she is out", fine.beam(2), 2);
        doc.due("fine", fine.day(), 2);
        says("II", "else still: DAMP stays;");
        ChaletRule none = Check.with(Village.chalet(59, 0, 2, 0));
        ChaletRule two = Check.with(Village.chalet(59, 0, 3, 0));
        for (int i = 0; i < 5; i++) {
            doc.due("none out", none.day(), 0);
            doc.due("its damp", none.beam(1), 59);
            doc.due("both out", two.day(), 0);
            doc.due("its damp", two.beam(1), 59);
        }
    }

    private void pulls() {
        says("II", "then the PULL: a tenth of what DAMP is above 50, or below (towards 0),");
        int[][] tenths = {{50, 0}, {59, 0}, {60, 1}, {69, 1}, {70, 2}, {99, 4}, {41, 0}, {40, -1}, {31, -1}, {30, -2}, {1, -4}, {0, -5}};
        for (int[] t : tenths) {
            ChaletRule x = Check.with(Village.chalet(t[0], 0, 3, 0) + ";weather wet 0 fine 0");
            doc.due("beam(5) by " + t[0], x.beam(5), 9 + t[1]);
            doc.due("behind two days by " + t[0], x.angleIn(2), 9 + t[1]);
        }
        doc.due("100", Check.with(Village.chalet(100, 0, 3, 0)).angleIn(2), 14);
        ChaletRule then = Check.with(Village.chalet(80, 0, 2, 0) + ";weather wet 10 fine 0");
        doc.due("by DAMP ahead", then.angleIn(1), 12);
        doc.due("by DAMP as it is then", then.angleIn(2), 13);
        says("II", "and of each vent open for it what it tells, to its side;");
        ChaletRule x = Check.with(Village.chalet(50, 0, 3, 0) + ";vent a wet 4 costs 0;vent b wet 3 costs 0;vent c fine 1 costs 0;"
                + "vent d fine 2 costs 0");
        int[] pull = {4, 3, -1, -2};
        for (int open = 0; open < 16; open++) {
            int sum = 0;
            for (int k = 0; k < 4; k++) {
                if ((open >> k & 1) == 1) {
                    sum += pull[k];
                    x.open(k);
                }
            }
            doc.due("vents " + open, x.angleIn(1), 9 + Math.max(-4, Math.min(4, sum)));
            while (x.size(11) > 0) {
                x.undo();
            }
        }
        ChaletRule damp = Check.with(Village.chalet(70, 0, 3, 0) + ";vent a fine 3 costs 0");
        damp.open(0);
        doc.due("besides DAMP's", damp.angleIn(1), 8);
        says("II", "no further than 9;");
        x = Check.with(Village.chalet(100, 0, 3, 0) + ";vent a wet 9 costs 0;vent b wet 9 costs 0;vent c fine 9 costs 0");
        ChaletRule dry = Check.with(Village.chalet(0, 0, 3, 0) + ";vent a fine 9 costs 0;vent b fine 9 costs 0;vent c wet 9 costs 0");
        for (int i = 0; i < 4; i++) {
            x.open(0);
            x.open(1);
            x.day();
            dry.open(0);
            dry.open(1);
            dry.day();
        }
        doc.due("wet", x.beam(0), 18);
        doc.due("fine", dry.beam(0), 0);
        for (int k = 0; k < 3; k++) {
            x.open(k);
            dry.open(k);
        }
        doc.due("14 in all", x.angleIn(1), 18);
        doc.due("-14 in all", dry.angleIn(1), 0);
    }

    private void goingTowards() {
        says("II", "the ANGLE goes towards the PULL by 1 and OIL at most;");
        for (int oil = 0; oil <= 3; oil++) {
            for (int by = 1; by <= 9; by++) {
                ChaletRule x = Check.with(Village.chalet(50, 0, oil, 0) + ";vent a wet " + by + " costs 0;vent b fine " + by + " costs 0");
                x.open(0);
                doc.due("wet " + by + " oil " + oil, x.angleIn(1), 9 + Math.min(by, 1 + oil));
                x.undo();
                x.open(1);
                doc.due("fine " + by + " oil " + oil, x.angleIn(1), 9 - Math.min(by, 1 + oil));
            }
        }
        ChaletRule backwards = level(0);
        dayWith(backwards, 0);
        dayWith(backwards, 0);
        doc.due("back by 1", backwards.angleIn(1), 10);
        doc.due("back by 2", backwards.angleIn(2), 9);
        says("II", "by 1 less (0 at least) if DAMP is 100 less ten for each of wood, or more;");
        for (int wood = 0; wood <= 9; wood++) {
            for (int oil = 0; oil <= 3; oil++) {
                int held = 100 - 10 * wood;
                for (int damp : new int[] {held - 1, held, Math.min(100, held + 1), 100}) {
                    ChaletRule x = Check.with(Village.chalet(damp, wood, oil, 0) + WET_AND_FINE);
                    x.open(damp < 50 ? 1 : 0);
                    int by = damp >= held ? oil : 1 + oil;
                    doc.due("damp " + damp + " wood " + wood + " oil " + oil, x.angleIn(1), damp < 50 ? 9 - by : 9 + by);
                }
            }
        }
        ChaletRule then = Check.with(Village.chalet(80, 1, 2, 0) + ";weather wet 10 fine 0" + WET_AND_FINE);
        then.day();
        then.open(0);
        doc.due("held by DAMP as it is then", then.angleIn(1), 14);
        says("II", "all vents are shut then.");
        ChaletRule x = level(1);
        x.open(0);
        x.open(1);
        x.day();
        doc.due("vent(0, 3)", x.vent(0, 3), 0);
        doc.due("vent(1, 3)", x.vent(1, 3), 0);
        dayWith(x, 0);
        doc.due("wet by 2", x.beam(0), 11);
        doc.due("back without it", x.angleIn(1), 9);
    }

    private void keptPlans() {
        says("II", "A plan is KEPT if the DAY of its number has its WEATHER.");
        String plans = ";plan a on 0 wet worth 1;plan b on 0 fine worth 1;plan c on 1 wet worth 1;plan d on 1 fine worth 1";
        ChaletRule wet = Check.with(Village.chalet(80, 0, 1, 0) + plans);
        ChaletRule fine = Check.with(Village.chalet(20, 0, 1, 0) + plans);
        ChaletRule still = Check.with(Village.chalet(50, 0, 1, 0) + plans);
        int[][] want = {{0, 0, 1, 0}, {0, 0, 0, 1}, {0, 0, 0, 0}};
        for (int k = 0; k < 4; k++) {
            doc.due("wet plan " + k, wet.plan(k, 3), want[0][k]);
            doc.due("fine plan " + k, fine.plan(k, 3), want[1][k]);
            doc.due("still plan " + k, still.plan(k, 3), want[2][k]);
        }
    }

    private void beam() {
        says("6", "0 the ANGLE NOW, 1 DAMP, 2 WHO is out, 3 OIL,");
        ChaletRule x = Check.with(Village.TEXT);
        int[][] want = {{9, 80, 0, 1}, {11, 80, 1, 1}, {12, 95, 1, 1}};
        for (int[] w : want) {
            for (int what = 0; what < 4; what++) {
                doc.due("beam(" + what + ")", x.beam(what), w[what]);
            }
            x.day();
        }
        says("6", "4 WEATHER of the latest DAY (0 if none was),");
        x = Check.with(Village.TEXT);
        doc.due("none was", x.beam(4), 0);
        x.day();
        doc.due("still", x.beam(4), 0);
        x.day();
        doc.due("wet", x.beam(4), 1);
        x.open(1);
        x.oil();
        doc.due("other ACTS", x.beam(4), 1);
        ChaletRule dry = Check.with(Village.chalet(0, 0, 1, 0));
        dry.day();
        dry.day();
        doc.due("fine", dry.beam(4), 2);
        dry.undo();
        doc.due("undone", dry.beam(4), 0);
        says("6", "5 the PULL, if there were no vents.");
        x = Check.with(Village.TEXT);
        doc.due("beam(5)", x.beam(5), 12);
        x.open(0);
        doc.due("flue is open", x.beam(5), 12);
        x.open(1);
        doc.due("sash, too", x.beam(5), 12);
        says("6", "NONE: 1 (no CHALET, too).");
        for (int what : new int[] {-1, 6, Integer.MIN_VALUE, Integer.MAX_VALUE}) {
            doc.refused("beam(" + what + ")", x, x.beam(what), 1);
        }
        ChaletRule none = new ChaletRule();
        for (int what = -1; what <= 6; what++) {
            doc.refused("no CHALET, beam(" + what + ")", none, none.beam(what), 1);
        }
    }

    private void vent() {
        says("7", "Of a vent 0 its WEATHER, 1 by how much, 2 coins,");
        ChaletRule x = Check.with(Village.chalet(0, 0, 0, 0) + ";vent a wet 1 costs 0;vent b fine 9 costs 99;vent c wet 5 costs 7;"
                + "vent d fine 2 costs 3");
        int[][] want = {{1, 1, 0}, {2, 9, 99}, {1, 5, 7}, {2, 2, 3}};
        for (int k = 0; k < 4; k++) {
            for (int what = 0; what < 3; what++) {
                doc.due("vent(" + k + ", " + what + ")", x.vent(k, what), want[k][what]);
            }
        }
        says("7", "3 1 if it is open NOW.");
        for (int k = 0; k < 4; k++) {
            doc.due("shut", x.vent(k, 3), 0);
            x.open(k);
            doc.due("open", x.vent(k, 3), 1);
        }
        x.undo();
        doc.due("the last one undone", x.vent(3, 3), 0);
        doc.due("the others not", x.vent(2, 3), 1);
        x.day();
        doc.due("behind a DAY", x.vent(0, 3), 0);
        says("7", "NONE: 1.");
        int[][] wrong = {{-1, 0}, {4, 0}, {0, -1}, {0, 4}, {32, 3}, {Integer.MIN_VALUE, 3}, {3, Integer.MAX_VALUE}};
        for (int[] w : wrong) {
            doc.refused("vent(" + w[0] + ", " + w[1] + ")", x, x.vent(w[0], w[1]), 1);
        }
        ChaletRule none = new ChaletRule();
        doc.refused("no CHALET", none, none.vent(0, 0), 1);
        ChaletRule bare = Check.with(Village.ZEROS);
        doc.refused("no vents", bare, bare.vent(0, 0), 1);
    }

    private void plan() {
        says("8", "Of a plan 0 its DAY, 1 WEATHER, 2 worth,");
        ChaletRule x = Check.with(Village.chalet(80, 1, 1, 0) + ";plan a on 0 wet worth 99;plan b on 20 fine worth 0;"
                + "plan c on 1 wet worth 5;plan d on 2 wet worth 6;plan e on 3 fine worth 7;plan f on 20 wet worth 8");
        int[][] want = {{0, 1, 99}, {20, 2, 0}, {1, 1, 5}, {2, 1, 6}, {3, 2, 7}, {20, 1, 8}};
        for (int k = 0; k < 6; k++) {
            for (int what = 0; what < 3; what++) {
                doc.due("plan(" + k + ", " + what + ")", x.plan(k, what), want[k][what]);
            }
        }
        says("8", "3 1 if it is KEPT");
        int[] kept = {0, 0, 1, 1, 0, 1};
        for (int k = 0; k < 6; k++) {
            doc.due("plan(" + k + ", 3)", x.plan(k, 3), kept[k]);
        }
        says("8", "(of DAYS gone by as they were, of others from NOW on).");
        ChaletRule village = Check.with(Village.TEXT);
        doc.due("from NOW on: not fine on day 2", village.plan(0, 3), 0);
        village.open(1);
        village.day();
        village.open(1);
        doc.due("sash is open NOW", village.plan(0, 3), 1);
        doc.due("not wet on day 3", village.plan(1, 3), 0);
        village.day();
        village.day();
        doc.due("gone by as it was", village.plan(0, 3), 1);
        village.oil();
        village.open(0);
        doc.due("whatever is done then", village.plan(0, 3), 1);
        for (int days = 0; days <= 21; days++) {
            for (int k = 0; k < 6; k++) {
                doc.due("plan(" + k + ", 3) behind " + days, x.plan(k, 3), kept[k]);
            }
            x.day();
        }
        says("8", "NONE: 1.");
        int[][] wrong = {{-1, 0}, {6, 0}, {0, -1}, {0, 4}, {Integer.MIN_VALUE, 3}, {5, Integer.MAX_VALUE}};
        for (int[] w : wrong) {
            doc.refused("plan(" + w[0] + ", " + w[1] + ")", x, x.plan(w[0], w[1]), 1);
        }
        ChaletRule none = new ChaletRule();
        doc.refused("no CHALET", none, none.plan(0, 0), 1);
        ChaletRule bare = Check.with(Village.ZEROS);
        doc.refused("no plans", bare, bare.plan(0, 0), 1);
    }

    private void goes() {
        says("9", "By how much at most the ANGLE goes with so much DAMP");
        for (int wood = 0; wood <= 9; wood++) {
            ChaletRule x = Check.with(Village.chalet(0, wood, 0, 0));
            doc.due("held by wood " + wood, x.goes(100 - 10 * wood), 0);
            doc.due("free by wood " + wood, x.goes(99 - 10 * wood), 1);
        }
        says("9", "(0 .. 100),");
        ChaletRule x = Check.with(Village.TEXT);
        doc.due("goes(0)", x.goes(0), 2);
        doc.due("goes(100)", x.goes(100), 1);
        doc.due("not refused", x.trouble(), 0);
        says("9", "OIL as NOW.");
        x.oil();
        doc.due("one more", x.goes(0), 3);
        x.oil();
        doc.due("3", x.goes(0), 4);
        doc.due("3 held", x.goes(90), 3);
        x.undo();
        doc.due("undone", x.goes(0), 3);
        says("9", "NONE: 1 (no CHALET);");
        ChaletRule none = new ChaletRule();
        doc.refused("goes(0)", none, none.goes(0), 1);
        doc.refused("goes(101)", none, none.goes(101), 1);
        says("9", "2.");
        for (int damp : new int[] {-1, 101, Integer.MIN_VALUE, Integer.MAX_VALUE}) {
            doc.refused("goes(" + damp + ")", x, x.goes(damp), 2);
        }
    }

    private void stays() {
        says("10", "The least and the most DAMP by which,");
        doc.due("by the pull", Check.with(Village.chalet(7, 0, 1, 0)).stays(), 41059);
        doc.due("by the pull, or held by wood 2", Check.with(Village.chalet(7, 2, 0, 0)).stays(), 41100);
        doc.due("held from 10 on", Check.with(Village.chalet(7, 9, 0, 0)).stays(), 10100);
        doc.due("oil 1 is not held", Check.with(Village.chalet(7, 9, 1, 0)).stays(), 41059);
        says("10", "vents shut, the ANGLE stays as it is NOW: 1,000 times and;");
        int[][] wet = {{9, 41059}, {10, 60069}, {11, 70079}, {12, 80089}, {13, 90099}};
        int[][] fine = {{9, 41059}, {8, 31040}, {7, 21030}, {6, 11020}, {5, 1010}, {4, 0}};
        ChaletRule x = level(1);
        turnAndStay(0, wet);
        turnAndStay(1, fine);
        x.open(0);
        doc.due("a vent is open", x.stays(), 41059);
        ChaletRule held = level(0);
        for (int i = 0; i < 5; i++) {
            dayWith(held, 0);
        }
        doc.due("5 by 100 alone, where it is held, too", held.stays(), 100100);
        dayWith(held, 0);
        doc.due("6 only where it is held", held.stays(), 100100);
        says("10", "-2 none.");
        held.oil();
        doc.due("6, not held", held.stays(), -2);
        doc.due("not refused", held.trouble(), 0);
        ChaletRule far = level(1);
        dayWith(far, 1);
        dayWith(far, 1);
        dayWith(far, 1);
        doc.due("-6", far.stays(), -2);
        says("10", "NONE: 1 (no CHALET).");
        ChaletRule none = new ChaletRule();
        doc.refused("stays()", none, none.stays(), 1);
    }

    /** By single steps (oil 0), then oil that frees it from wood's hold. */
    private void turnAndStay(int vent, int[][] want) {
        for (int steps = 0; steps < want.length; steps++) {
            ChaletRule x = level(0);
            for (int i = 0; i < steps; i++) {
                dayWith(x, vent);
            }
            x.oil();
            doc.due("angle", x.beam(0), want[steps][0]);
            doc.due("stays() at " + want[steps][0], x.stays(), want[steps][1]);
        }
    }
}
