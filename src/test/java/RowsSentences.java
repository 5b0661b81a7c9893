/** Promises 18 to 23, 31 and 32: rows of vents, and the turns of a junior and a step. */
final class RowsSentences {
    private static final int[] BAD_ROW_DAYS = {-1, 0, 5, Integer.MIN_VALUE, Integer.MAX_VALUE};

    /** He is out at 1, she at -1, and no weather changes the damp: a vent makes the next DAY wet or fine. */
    private static final String LIGHT = Village.chalet(50, 0, 2, 0) + ";weather wet 0 fine 0";
    private static final String PLANNED = LIGHT + ";vent a wet 1 costs 3;vent b fine 1 costs 2;plan p on 1 wet worth 10;"
            + "plan q on 2 fine worth 20;plan r on 3 wet worth 30;plan s on 4 wet worth 40";

    private final Sentences doc;
    private final ChaletRule none = new ChaletRule();
    private final ChaletRule x = Check.with(PLANNED);

    RowsSentences(Sentences doc) {
        this.doc = doc;
    }

    void all() {
        rows();
        bestAndSure();
        worthOf();
        bestRow();
        bestWorth();
        sureRow();
        sureCoins();
        rowFor();
        turns();
        value();
        opens();
    }

    private void says(String section, String quote) {
        doc.says(section, quote);
    }

    private void worthIs(ChaletRule some, int row, int n, int want) {
        doc.due("worthOf(" + row + ", " + n + ")", some.worthOf(row, n), want);
    }

    private void rows() {
        says("III", "VENTS for n DAYS (1 .. 4):");
        for (int n = 1; n <= 4; n++) {
            worthIs(x, 0, n, 1000);
            doc.due("not refused", x.trouble(), 0);
        }
        for (int n : BAD_ROW_DAYS) {
            doc.refused("worthOf(0, " + n + ")", x, x.worthOf(0, n), 2);
        }
        says("III", "a row of one vent or none, opened besides for each:");
        worthIs(x, 1210, 4, 1052);
        ChaletRule open = Check.with(PLANNED);
        open.open(0);
        worthIs(open, 0, 2, 1010);
        worthIs(open, 20, 2, 998);
        worthIs(open, 2, 2, 1008);
        worthIs(open, 210, 3, 995);
        doc.due("nothing is opened by it", open.vent(1, 3), 0);
        doc.due("no ACTS", open.size(11), 1);
        says("III", "its WORTH: plans KEPT of these DAYS, less coins.");
        int[][] worths = {{1, 1, 997}, {10, 2, 1007}, {100, 3, 1007}, {120, 3, 1025}, {1200, 4, 1025}, {1210, 4, 1052}, {1211, 4, 1049},
            {2111, 4, 1019}};
        for (int[] w : worths) {
            worthIs(x, w[0], w[1], w[2]);
        }
        ChaletRule later = Check.with(PLANNED);
        later.open(0);
        later.day();
        later.day();
        worthIs(later, 0, 1, 1000);
        worthIs(later, 10, 2, 1027);
        worthIs(later, 110, 3, 1064);
    }

    private void bestAndSure() {
        says("III", "BEST: most WORTH;");
        int[][] best = {{1, 0, 1000}, {2, 10, 1007}, {3, 120, 1025}, {4, 1210, 1052}};
        for (int[] b : best) {
            doc.due("bestRow(" + b[0] + ")", x.bestRow(b[0]), b[1]);
            doc.due("bestWorth(" + b[0] + ")", x.bestWorth(b[0]), b[2]);
        }
        ChaletRule dear = Check.with(LIGHT + ";vent a wet 1 costs 9;plan p on 1 wet worth 8");
        doc.due("not for more coins than worth", dear.bestRow(2), 0);
        says("III", "SURE: fewest coins by which all plans of these DAYS are KEPT;");
        doc.due("sureRow(4)", x.sureRow(4), 1210);
        doc.due("sureCoins(4)", x.sureCoins(4), 8);
        doc.due("for more coins than worth", dear.sureRow(2), 10);
        ChaletRule cheap = Check.with(LIGHT + ";vent a wet 1 costs 5;vent b wet 2 costs 4;plan p on 1 wet worth 0;plan q on 4 fine worth 9");
        doc.due("the cheaper one", cheap.sureRow(2), 20);
        doc.due("its coins", cheap.sureCoins(2), 4);
        doc.due("a later DAY's plan isn't asked for", cheap.sureCoins(4), 4);
        cheap.day();
        cheap.day();
        doc.due("nor one of a DAY gone by", cheap.sureCoins(2), 0);
        doc.due("on the third DAY it can't be", cheap.sureCoins(3), -2);
        says("III", "of like ones the first row, DAY by DAY (none ahead of all, then by numbers).");
        String free = ";vent a fine 1 costs 0;vent b wet 1 costs 0;vent c wet 2 costs 0;vent d wet 1 costs 0";
        ChaletRule like = Check.with(LIGHT + free + ";plan p on 2 wet worth 5");
        doc.due("bestRow(1)", like.bestRow(1), 0);
        doc.due("bestRow(3)", like.bestRow(3), 20);
        doc.due("behind another row", like.worthOf(4444, 4), 1005);
        doc.due("bestRow(3) again", like.bestRow(3), 20);
        doc.due("sureRow(3)", like.sureRow(3), 20);
        doc.due("bestRow(4)", like.bestRow(4), 200);
        doc.due("sureRow(4)", like.sureRow(4), 200);
        doc.due("the WHO's, too", like.rowFor(1, 2), 2);
        doc.due("no plans", Check.with(LIGHT + free).bestRow(4), 0);
        doc.due("no plans, sure", Check.with(LIGHT + free).sureRow(4), 0);
    }

    private void worthOf() {
        says("18", "WORTH of a row, as digits");
        worthIs(x, 1210, 4, 1052);
        worthIs(x, 120, 3, 1025);
        says("18", "(n of them, the first one's the highest,");
        worthIs(x, 1000, 4, 1007);
        worthIs(x, 100, 4, 997);
        worthIs(x, 1, 4, 997);
        worthIs(x, 1, 1, 997);
        says("18", "each 0 none, or a vent's number and 1),");
        ChaletRule four = Check.with(Village.ZEROS + ";vent a wet 1 costs 5;vent b wet 1 costs 16;vent c fine 1 costs 77;vent d fine 1 costs 99");
        int[] coins = {0, 5, 16, 77, 99};
        for (int digit = 0; digit <= 4; digit++) {
            worthIs(four, digit, 1, 1000 - coins[digit]);
            worthIs(four, 1000 * digit, 4, 1000 - coins[digit]);
        }
        worthIs(four, 1234, 4, 803);
        says("18", "and 1,000.");
        worthIs(four, 0, 4, 1000);
        worthIs(four, 4444, 4, 604);
        StringBuilder rich = new StringBuilder(LIGHT + ";vent a wet 1 costs 0");
        for (int i = 0; i < 6; i++) {
            rich.append(";plan p" + (char) ('a' + i) + " on 1 wet worth 99");
        }
        worthIs(Check.with(rich.toString()), 10, 2, 1594);
        says("18", "NONE: 1 (no CHALET);");
        doc.refused("worthOf(0, 1)", none, none.worthOf(0, 1), 1);
        doc.refused("worthOf(9, 0)", none, none.worthOf(9, 0), 1);
        says("18", "2 (n,");
        for (int n : BAD_ROW_DAYS) {
            doc.refused("worthOf(0, " + n + ")", x, x.worthOf(0, n), 2);
        }
        says("18", "a digit of no vent,");
        int[][] wrong = {{3, 1}, {9, 1}, {30, 2}, {13, 2}, {300, 3}, {131, 3}, {3000, 4}, {1113, 4}, {-1, 1}, {-1, 4}};
        for (int[] w : wrong) {
            doc.refused("worthOf(" + w[0] + ", " + w[1] + ")", x, x.worthOf(w[0], w[1]), 2);
        }
        doc.refused("a fifth one", four, four.worthOf(5, 4), 2);
        ChaletRule bare = Check.with(Village.ZEROS);
        worthIs(bare, 0, 4, 1000);
        doc.refused("none at all", bare, bare.worthOf(1, 4), 2);
        says("18", "more digits).");
        int[][] more = {{10, 1}, {100, 1}, {100, 2}, {1000, 3}, {10000, 4}, {20000, 4}, {1000000000, 4}, {Integer.MAX_VALUE, 4}, {-10, 1},
            {Integer.MIN_VALUE, 4}};
        for (int[] w : more) {
            doc.refused("worthOf(" + w[0] + ", " + w[1] + ")", x, x.worthOf(w[0], w[1]), 2);
        }
    }

    private void bestRow() {
        says("19", "BEST for n DAYS, likewise.");
        doc.due("bestRow(1)", x.bestRow(1), 0);
        doc.due("bestRow(4)", x.bestRow(4), 1210);
        doc.due("not refused", x.trouble(), 0);
        doc.due("without vents", Check.with(Village.ZEROS).bestRow(4), 0);
        says("19", "NONE: 1 (no CHALET);");
        doc.refused("bestRow(1)", none, none.bestRow(1), 1);
        doc.refused("bestRow(0)", none, none.bestRow(0), 1);
        says("19", "2.");
        for (int n : BAD_ROW_DAYS) {
            doc.refused("bestRow(" + n + ")", x, x.bestRow(n), 2);
        }
    }

    private void bestWorth() {
        says("20", "Its WORTH, and 1,000.");
        doc.due("bestWorth(1)", x.bestWorth(1), 1000);
        doc.due("bestWorth(4)", x.bestWorth(4), 1052);
        doc.due("not refused", x.trouble(), 0);
        says("20", "NONE: likewise.");
        doc.refused("no CHALET", none, none.bestWorth(0), 1);
        for (int n : BAD_ROW_DAYS) {
            doc.refused("bestWorth(" + n + ")", x, x.bestWorth(n), 2);
        }
    }

    private void sureRow() {
        says("21", "SURE: the row, likewise;");
        int[] rows = {0, 10, 120, 1210};
        for (int n = 1; n <= 4; n++) {
            doc.due("sureRow(" + n + ")", x.sureRow(n), rows[n - 1]);
        }
        says("21", "-2 by none.");
        ChaletRule first = Check.with(LIGHT + ";vent a wet 1 costs 0;plan p on 0 wet worth 1");
        doc.due("sureRow(1)", first.sureRow(1), -2);
        doc.due("not refused", first.trouble(), 0);
        doc.due("without vents", Check.with(LIGHT + ";plan p on 1 wet worth 1").sureRow(2), -2);
        says("21", "NONE: likewise.");
        doc.refused("no CHALET", none, none.sureRow(0), 1);
        for (int n : BAD_ROW_DAYS) {
            doc.refused("sureRow(" + n + ")", x, x.sureRow(n), 2);
        }
    }

    private void sureCoins() {
        says("22", "The coins of it;");
        int[] coins = {0, 3, 5, 8};
        for (int n = 1; n <= 4; n++) {
            doc.due("sureCoins(" + n + ")", x.sureCoins(n), coins[n - 1]);
        }
        ChaletRule dear = Check.with(LIGHT + ";vent a wet 1 costs 99;plan p on 1 wet worth 0;plan q on 2 wet worth 0;plan r on 3 wet worth 0");
        doc.due("the dearest", dear.sureCoins(4), 297);
        says("22", "-2.");
        ChaletRule two = Check.with(LIGHT + ";vent a wet 1 costs 0;plan p on 1 wet worth 1;plan q on 1 fine worth 1");
        doc.due("not both", two.sureCoins(2), -2);
        doc.due("not refused", two.trouble(), 0);
        says("22", "NONE: likewise.");
        doc.refused("no CHALET", none, none.sureCoins(0), 1);
        for (int n : BAD_ROW_DAYS) {
            doc.refused("sureCoins(" + n + ")", x, x.sureCoins(n), 2);
        }
    }

    private void rowFor() {
        says("23", "The first row (of fewest vents, then as above)");
        ChaletRule turn = Check.with(Village.chalet(61, 0, 2, 0) + ";weather wet 0 fine 2;vent a wet 4 costs 0;vent b fine 2 costs 0");
        doc.due("20 has fewer than 12", turn.rowFor(0, 2), 20);
        ChaletRule slow = Check.with(Village.chalet(50, 0, 0, 0) + ";vent a wet 9 costs 9;vent b wet 3 costs 0");
        doc.due("the first of three, whatever it costs", slow.rowFor(1, 3), 111);
        doc.due("none ahead of all", slow.rowFor(1, 4), 111);
        ChaletRule early = Check.with(Village.chalet(50, 0, 2, 0) + ";weather wet 30 fine 0;vent a wet 1 costs 0");
        doc.due("of one vent each, 10 is behind 1", early.rowFor(1, 2), 1);
        says("23", "of n DAYS by which those out behind them are WHO (0 .. 3);");
        int[] behindOne = {0, 1, 2, -2};
        for (int who = 0; who < 4; who++) {
            doc.due("rowFor(" + who + ", 1)", x.rowFor(who, 1), behindOne[who]);
            doc.due("not refused", x.trouble(), 0);
            doc.due("rowFor(" + who + ", 4)", x.rowFor(who, 4), behindOne[who]);
        }
        doc.due("both", Check.with(Village.chalet(50, 0, 3, 0) + ";vent a wet 1 costs 0").rowFor(3, 4), 0);
        says("23", "-2.");
        doc.due("not by two", slow.rowFor(1, 2), -2);
        doc.due("she", slow.rowFor(2, 4), -2);
        doc.due("not refused", slow.trouble(), 0);
        says("23", "NONE: likewise.");
        doc.refused("no CHALET", none, none.rowFor(4, 0), 1);
        for (int n : BAD_ROW_DAYS) {
            doc.refused("rowFor(0, " + n + ")", x, x.rowFor(0, n), 2);
        }
        for (int who : new int[] {-1, 4, 5, Integer.MIN_VALUE, Integer.MAX_VALUE}) {
            doc.refused("rowFor(" + who + ", 1)", x, x.rowFor(who, 1), 2);
        }
    }

    private void valuesAre(ChaletRule some, int... values) {
        for (int n = 0; n < values.length; n++) {
            doc.due("value(" + n + ")", some.value(n), values[n]);
        }
    }

    private void turns() {
        says("III", "JUNIOR and STEP open one vent or none, by turns, DAY by DAY, for n DAYS (0 .. 4), the junior first:");
        String both = ";weather wet 0 fine 0;vent a wet 9 costs 0;vent b fine 9 costs 0";
        valuesAre(Check.with(Village.chalet(50, 0, 0, 0) + both), 9, 10, 9, 10, 9);
        valuesAre(Check.with(Village.chalet(50, 0, 1, 0) + both), 9, 11, 9, 11, 9);
        valuesAre(Check.with(Village.chalet(50, 0, 0, 0)), 9, 9, 9, 9, 9);
        ChaletRule wet = Check.with(Village.chalet(50, 0, 0, 0) + ";weather wet 0 fine 0;vent a wet 9 costs 0;vent b wet 9 costs 0");
        valuesAre(wet, 9, 10, 9, 10, 9);
        says("III", "the one wants the ANGLE behind these as wet as may be, the other one as fine: VALUE, both playing best.");
        ChaletRule ahead = Check.with(Village.chalet(21, 1, 1, 0) + ";weather wet 0 fine 2;vent va wet 1 costs 0;vent vb wet 2 costs 0");
        valuesAre(ahead, 9, 9, 7);
        doc.due("best for one", ahead.opens(1), 1);
        doc.due("the lesser is as good for two", ahead.opens(2), 0);
    }

    private void value() {
        says("31", "VALUE for n DAYS");
        ChaletRule village = Check.with(Village.TEXT);
        valuesAre(village, 9, 11, 10);
        village.day();
        doc.due("from NOW", village.value(0), 11);
        says("31", "(0 .. 4).");
        for (int n = 0; n <= 4; n++) {
            village.value(n);
            doc.due("not refused", village.trouble(), 0);
        }
        says("31", "NONE: 1 (no CHALET);");
        doc.refused("value(0)", none, none.value(0), 1);
        doc.refused("value(5)", none, none.value(5), 1);
        says("31", "2.");
        for (int n : new int[] {-1, 5, Integer.MIN_VALUE, Integer.MAX_VALUE}) {
            doc.refused("value(" + n + ")", village, village.value(n), 2);
        }
    }

    private void opens() {
        says("32", "The vent the junior opens first, playing best, the first such;");
        ChaletRule some = Check.with(LIGHT + ";vent a fine 1 costs 0;vent b wet 1 costs 0;vent c wet 2 costs 0;vent d wet 2 costs 0");
        doc.due("opens(1)", some.opens(1), 2);
        ChaletRule last = Check.with(LIGHT + ";vent a fine 1 costs 0;vent b fine 2 costs 0;vent c fine 3 costs 0;vent d wet 1 costs 0");
        doc.due("the last one", last.opens(1), 3);
        ChaletRule only = Check.with(LIGHT + ";vent a wet 1 costs 99");
        doc.due("the first one", only.opens(1), 0);
        doc.due("not refused", only.trouble(), 0);
        ChaletRule far = Check.with(Village.ZEROS + ";vent a fine 9 costs 0;vent b wet 6 costs 0");
        for (int i = 0; i < 9; i++) {
            far.open(0);
            far.day();
        }
        far.open(0);
        doc.due("-8 is better than -9", far.opens(1), 1);
        doc.due("its VALUE", far.value(1), 1);
        says("32", "-2 none is as good as any.");
        doc.due("two DAYS: it comes back", only.opens(2), -2);
        doc.due("without vents", Check.with(LIGHT).opens(4), -2);
        ChaletRule fine = Check.with(LIGHT + ";vent a fine 1 costs 0");
        doc.due("a vent of the other side", fine.opens(1), -2);
        doc.due("not refused", fine.trouble(), 0);
        says("32", "NONE: 1 (no CHALET);");
        doc.refused("opens(1)", none, none.opens(1), 1);
        doc.refused("opens(0)", none, none.opens(0), 1);
        says("32", "2 (1 .. 4).");
        for (int n : BAD_ROW_DAYS) {
            doc.refused("opens(" + n + ")", some, some.opens(n), 2);
        }
        for (int n = 1; n <= 4; n++) {
            some.opens(n);
            doc.due("not refused", some.trouble(), 0);
        }
    }
}
