/** Promises 11 to 17, and what term III says of days to come. */
final class DaysSentences {
    private static final int[] BAD_DAYS = {-1, 61, Integer.MIN_VALUE, Integer.MAX_VALUE};

    private final Sentences doc;
    private final ChaletRule none = new ChaletRule();
    private final ChaletRule village = Check.with(Village.TEXT);

    DaysSentences(Sentences doc) {
        this.doc = doc;
    }

    void all() {
        fromNow();
        angleIn();
        dampIn();
        whoIn();
        daysOf();
        when();
        round();
        kept();
    }

    private void says(String section, String quote) {
        doc.says(section, quote);
    }

    private void fromNow() {
        says("III", "From NOW, with vents open as NOW for the next DAY, none later, if none is told.");
        ChaletRule x = Check.with(Village.chalet(50, 0, 1, 0) + ";weather wet 0 fine 0;vent a wet 9 costs 0");
        x.day();
        x.open(0);
        int[] angles = {9, 11, 9, 9};
        for (int n = 0; n < angles.length; n++) {
            doc.due("angleIn(" + n + ")", x.angleIn(n), angles[n]);
        }
        doc.due("when(1)", x.when(1), 1);
        doc.due("daysOf(1, 60)", x.daysOf(1, 60), 1);
        doc.due("gusted(0, 1)", x.gusted(0, 1), 11);
        doc.due("gusted(0, 2)", x.gusted(0, 2), 9);
        doc.due("mean(1)", x.mean(1, false), 11);
        doc.due("mean(2)", x.mean(2, false), 9);
        doc.due("value(1)", x.value(1), 11);
        doc.due("value(2)", x.value(2), 9);
        doc.due("it is still open", x.vent(0, 3), 1);
        doc.due("no more DAYS went by", x.size(10), 1);
    }

    private void angleIn() {
        says("11", "The ANGLE behind n DAYS");
        int[] angles = {9, 11, 12, 13, 14, 14};
        for (int n = 0; n < angles.length; n++) {
            doc.due("angleIn(" + n + ")", village.angleIn(n), angles[n]);
        }
        says("11", "(0 .. 60).");
        doc.due("angleIn(0)", village.angleIn(0), 9);
        doc.due("not refused", village.trouble(), 0);
        doc.due("angleIn(60)", village.angleIn(60), 14);
        doc.due("not refused", village.trouble(), 0);
        says("11", "NONE: 1 (no CHALET);");
        doc.refused("angleIn(0)", none, none.angleIn(0), 1);
        doc.refused("angleIn(61)", none, none.angleIn(61), 1);
        says("11", "2.");
        for (int n : BAD_DAYS) {
            doc.refused("angleIn(" + n + ")", village, village.angleIn(n), 2);
        }
    }

    private void dampIn() {
        says("12", "DAMP then.");
        int[] damps = {80, 80, 95, 100, 100};
        for (int n = 0; n < damps.length; n++) {
            doc.due("dampIn(" + n + ")", village.dampIn(n), damps[n]);
        }
        doc.due("dampIn(60)", village.dampIn(60), 100);
        doc.due("not refused", village.trouble(), 0);
        ChaletRule slow = Check.with(Village.chalet(60, 0, 2, 0) + ";weather wet 1 fine 0");
        doc.due("each DAY but the first one more", slow.dampIn(40), 99);
        doc.due("all 60", Check.with(Village.chalet(99, 0, 2, 0) + ";weather wet 0 fine 0").dampIn(60), 99);
        says("12", "NONE: likewise.");
        doc.refused("no CHALET", none, none.dampIn(61), 1);
        for (int n : BAD_DAYS) {
            doc.refused("dampIn(" + n + ")", village, village.dampIn(n), 2);
        }
    }

    private void whoIn() {
        says("13", "WHO is out then.");
        doc.due("whoIn(0)", village.whoIn(0), 0);
        doc.due("whoIn(1)", village.whoIn(1), 1);
        doc.due("whoIn(60)", village.whoIn(60), 1);
        doc.due("she", Check.with(Village.chalet(0, 0, 1, 0)).whoIn(60), 2);
        doc.due("both", Check.with(Village.chalet(50, 0, 3, 0)).whoIn(60), 3);
        says("13", "NONE: likewise.");
        doc.refused("no CHALET", none, none.whoIn(61), 1);
        for (int n : BAD_DAYS) {
            doc.refused("whoIn(" + n + ")", village, village.whoIn(n), 2);
        }
    }

    private void daysOf() {
        says("14", "How many of the next n DAYS");
        for (int n = 0; n <= 60; n++) {
            doc.due("daysOf(0, " + n + ")", village.daysOf(0, n), Math.min(n, 1));
            doc.due("daysOf(1, " + n + ")", village.daysOf(1, n), Math.max(n - 1, 0));
        }
        ChaletRule later = Check.with(Village.TEXT);
        later.day();
        later.day();
        doc.due("those gone by don't count", later.daysOf(0, 60), 0);
        doc.due("60 wet ones", later.daysOf(1, 60), 60);
        says("14", "(0 .. 60)");
        doc.due("daysOf(2, 0)", village.daysOf(2, 0), 0);
        doc.due("not refused", village.trouble(), 0);
        doc.due("daysOf(2, 60)", village.daysOf(2, 60), 0);
        doc.due("not refused", village.trouble(), 0);
        says("14", "have a WEATHER");
        ChaletRule dry = Check.with(Village.chalet(0, 0, 1, 0));
        doc.due("still", dry.daysOf(0, 7), 1);
        doc.due("wet", dry.daysOf(1, 7), 0);
        doc.due("fine", dry.daysOf(2, 7), 6);
        says("14", "(0 .. 2).");
        for (int weather = 0; weather <= 2; weather++) {
            dry.daysOf(weather, 1);
            doc.due("not refused", dry.trouble(), 0);
        }
        doc.refused("daysOf(3, 1)", dry, dry.daysOf(3, 1), 2);
        doc.refused("daysOf(-1, 1)", dry, dry.daysOf(-1, 1), 2);
        says("14", "NONE: likewise.");
        doc.refused("no CHALET", none, none.daysOf(3, 61), 1);
        for (int n : BAD_DAYS) {
            doc.refused("daysOf(0, " + n + ")", village, village.daysOf(0, n), 2);
            doc.refused("daysOf(" + n + ", 0)", village, village.daysOf(n, 0), 2);
        }
    }

    private void when() {
        says("15", "Behind how many DAYS");
        doc.due("he", village.when(1), 1);
        ChaletRule slow = Check.with(Village.chalet(80, 0, 0, 0));
        doc.due("he by three steps", slow.when(1), 3);
        slow.day();
        doc.due("two are left", slow.when(1), 2);
        says("15", "(0: NOW;");
        doc.due("none", village.when(0), 0);
        doc.due("both", Check.with(Village.chalet(0, 0, 3, 0)).when(3), 0);
        slow.day();
        slow.day();
        doc.due("he is out NOW", slow.when(1), 0);
        says("15", "60 at most)");
        doc.due("she never", village.when(2), -2);
        doc.due("nor behind 60", village.whoIn(60), 1);
        ChaletRule far = Check.with(Village.ZEROS + ";weather wet 0 fine 0;vent a wet 9 costs 0;vent b wet 5 costs 0");
        for (int i = 0; i < 9; i++) {
            far.open(0);
            far.open(1);
            far.day();
        }
        doc.due("from 9 to -3", far.when(2), 12);
        says("15", "those out are WHO");
        int[] whens = {7, 0, 12, -2};
        for (int who = 0; who < 4; who++) {
            doc.due("when(" + who + ")", far.when(who), whens[who]);
        }
        says("15", "(0 .. 3)");
        for (int who = 0; who < 4; who++) {
            far.when(who);
            doc.due("not refused", far.trouble(), 0);
        }
        says("15", "first;");
        far.day();
        doc.due("none is out again only once", far.when(0), 6);
        ChaletRule again = Check.with(Village.chalet(50, 0, 2, 0) + ";weather wet 0 fine 0;vent a wet 1 costs 0");
        again.open(0);
        doc.due("not the later one", again.when(0), 0);
        says("15", "-2.");
        doc.due("when(3)", village.when(3), -2);
        doc.due("not refused", village.trouble(), 0);
        says("15", "NONE: 1 (no CHALET);");
        doc.refused("when(0)", none, none.when(0), 1);
        doc.refused("when(4)", none, none.when(4), 1);
        says("15", "2.");
        for (int who : new int[] {-1, 4, Integer.MIN_VALUE, Integer.MAX_VALUE}) {
            doc.refused("when(" + who + ")", village, village.when(who), 2);
        }
    }

    private void round() {
        says("III", "ROUND: of what ANGLE and DAMP are, behind the next DAY and each one more: the first that is as one ahead of it.");
        ChaletRule rest = Check.with(Village.chalet(50, 0, 0, 0) + ";vent a wet 9 costs 0");
        doc.due("NOW is none of them", rest.round(), 20001);
        rest.open(0);
        doc.due("1 behind the next, then 0 and 0", rest.round(), 30001);
        ChaletRule slow = Check.with(Village.chalet(60, 0, 2, 0) + ";weather wet 1 fine 0");
        doc.due("the same ANGLE with another DAMP is not as it was", slow.round(), 420001);
        farRounds();
        says("16", "ROUND: behind how many DAYS it is as it was ahead, and how long the round is:");
        doc.due("round()", village.round(), 50001);
        ChaletRule x = Check.with(Village.TEXT);
        x.day();
        doc.due("a DAY later", x.round(), 40001);
        says("16", "10,000 times and.");
        doc.due("behind five", village.round() / 10000, 5);
        doc.due("one long", village.round() % 10000, 1);
        says("16", "NONE: 1 (no CHALET).");
        doc.refused("round()", none, none.round(), 1);
    }

    private static ChaletRule driven(String house, int days, String weather) {
        ChaletRule x = Check.with(house + ";vent a " + weather + " 9 costs 0");
        for (int i = 0; i < days; i++) {
            x.open(0);
            x.day();
        }
        return x;
    }

    private void farRounds() {
        ChaletRule wettest = driven(Village.chalet(100, 0, 3, 0), 4, "wet");
        wettest.open(0);
        doc.due("9, 6, 5, 5 with DAMP 100", wettest.round(), 40001);
        ChaletRule finest = driven(Village.ZEROS.replace("oil 0", "oil 3"), 4, "fine");
        finest.open(0);
        doc.due("-9, -5, -5 with DAMP 0", finest.round(), 30001);
        ChaletRule crossing = driven(Village.chalet(50, 0, 0, 0) + ";weather wet 1 fine 0", 9, "wet");
        doc.due("at 9", crossing.beam(0), 18);
        doc.due("one less with one more DAMP is not as it was", crossing.round(), 90001);
    }

    private void kept() {
        says("17", "Worths of plans KEPT of the next n DAYS");
        ChaletRule x = Check.with(Village.chalet(80, 1, 1, 0) + ";plan a on 0 wet worth 1;plan b on 1 wet worth 2;plan c on 1 fine worth 4;"
                + "plan d on 2 wet worth 8;plan e on 20 wet worth 16;plan f on 1 wet worth 32");
        int[] want = {0, 0, 34, 42};
        for (int n = 0; n <= 60; n++) {
            doc.due("kept(" + n + ")", x.kept(n), n < want.length ? want[n] : n < 21 ? 42 : 58);
        }
        x.day();
        x.day();
        doc.due("those gone by don't count", x.kept(60), 24);
        doc.due("kept(18)", x.kept(18), 8);
        doc.due("kept(19)", x.kept(19), 24);
        ChaletRule most = Check.with(Village.chalet(80, 1, 1, 0) + ";plan a on 1 wet worth 99;plan b on 1 wet worth 99;"
                + "plan c on 1 wet worth 99;plan d on 1 wet worth 99;plan e on 1 wet worth 99;plan f on 1 wet worth 99");
        doc.due("the most", most.kept(2), 594);
        says("17", "(0 .. 60).");
        doc.due("kept(0)", most.kept(0), 0);
        doc.due("not refused", most.trouble(), 0);
        doc.due("kept(60)", most.kept(60), 594);
        doc.due("not refused", most.trouble(), 0);
        says("17", "NONE: 1 (no CHALET);");
        doc.refused("kept(0)", none, none.kept(0), 1);
        doc.refused("kept(61)", none, none.kept(61), 1);
        says("17", "2.");
        for (int n : BAD_DAYS) {
            doc.refused("kept(" + n + ")", village, village.kept(n), 2);
        }
    }
}
